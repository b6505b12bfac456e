/-! THE ABSTRACT LAYER: a heap as keys with shapes and whole numbers; one judgement zR: from this frame the machine ends the method as the functional text r says -/
abbrev zCl : List vw_C := [(RX0, TX0, 4), (RX1, TX1, 11), (RX2, TX2, 6), (RX3, TX3, 6), (RX4, TX4, 11), (RX5, TX5, 11), (RX6, TX6, 6), (RX7, TX7, 15), (RX8, TX8, 15), (RX9, TX9, 46)]
def zTy : Nat → Nat → FieldType := fun c => match c with
  | 0 => tyX0
  | 1 => tyX1
  | 2 => tyX2
  | 3 => tyX3
  | 4 => tyX4
  | 5 => tyX5
  | 6 => tyX6
  | 7 => tyX7
  | 8 => tyX8
  | _ => tyX9
def zNf : Nat → Nat := fun c => match c with
  | 0 => 4
  | 1 => 11
  | 2 => 6
  | 3 => 6
  | 4 => 11
  | 5 => 11
  | 6 => 6
  | 7 => 15
  | 8 => 15
  | _ => 46
def zIsI (t : FieldType) : Bool := match t with
  | .int => true
  | .boolean => true
  | _ => false
/-- which slots of a class hold whole numbers -/
def zInt (c j : Nat) : Bool := zIsI (zTy c j)
/-- a cell's shape: (0 an object, 1 an array of numbers, 2 an array of references; the class's or the type's number; the length; the references) -/
abbrev zSh : Type := Nat × Nat × Nat × (Nat → Option Nat)
abbrev zMem : Type := Nat → Nat → Int32
def cv (σ : Nat → Nat) (v : Value) : Value := match v with
  | .ref k => .ref (σ k)
  | w => w
theorem cv_cat (σ : Nat → Nat) (v : Value) : (cv σ v).category = v.category := by cases v <;> rfl
def zFld (σ : Nat → Nat) (c : Nat) (r : Nat → Option Nat) (f : Nat → Int32) (j : Nat) : Value := if zInt c j = true then .int (f j) else va_rf ((r j).map σ)
def zFs (σ : Nat → Nat) (c : Nat) (r : Nat → Option Nat) (f : Nat → Int32) : List Value := (List.range (zNf c)).map (zFld σ c r f)
def zE (σ : Nat → Nat) (tc : Nat → ClassId) (sh : zSh) (f : Nat → Int32) : va_E :=
  if sh.1 = 0 then .inr (sh.2.1, zFs σ sh.2.1 sh.2.2.2 f)
  else if sh.1 = 1 then .inl (tc sh.2.1, sh.2.2.1, .inl f)
  else if sh.1 = 3 then .inl (tc sh.2.1, sh.2.2.1, .inr (.inl (fun j => (f j).toInt64)))
  else .inl (tc sh.2.1, sh.2.2.1, .inr (.inr (.inr (.inr (fun j => (sh.2.2.2 j).map σ)))))
theorem zE_obj {σ : Nat → Nat} {tc : Nat → ClassId} {c z : Nat} {r : Nat → Option Nat} {f : Nat → Int32} : zE σ tc (0, c, z, r) f = .inr (c, zFs σ c r f) := rfl
theorem zE_arr {σ : Nat → Nat} {tc : Nat → ClassId} {c z : Nat} {r : Nat → Option Nat} {f : Nat → Int32} : zE σ tc (1, c, z, r) f = .inl (tc c, z, .inl f) := rfl
theorem zE_ref {σ : Nat → Nat} {tc : Nat → ClassId} {c z : Nat} {r : Nat → Option Nat} {f : Nat → Int32} : zE σ tc (2, c, z, r) f = .inl (tc c, z, .inr (.inr (.inr (.inr (fun j => (r j).map σ))))) := rfl
theorem zE_lng {σ : Nat → Nat} {tc : Nat → ClassId} {c z : Nat} {r : Nat → Option Nat} {f : Nat → Int32} : zE σ tc (3, c, z, r) f = .inl (tc c, z, .inr (.inl (fun j => (f j).toInt64))) := rfl
def zW (σ : Nat → Nat) (tc : Nat → ClassId) (n : Nat) (S : Nat → zSh) (μ : zMem) : va_W := (List.range n).map (fun k => (σ k, zE σ tc (S k) (μ k)))
theorem zW_get {σ : Nat → Nat} {tc : Nat → ClassId} {n : Nat} {S : Nat → zSh} {μ : zMem} {k : Nat} (h : k < n) : (zW σ tc n S μ)[k]? = some (σ k, zE σ tc (S k) (μ k)) := by
  unfold zW
  rw [List.getElem?_map, List.getElem?_range h]
  rfl
theorem zW_get' {σ : Nat → Nat} {tc : Nat → ClassId} {n : Nat} {S : Nat → zSh} {μ : zMem} {k : Nat} {sh : zSh} (h : k < n) (hs : S k = sh) : (zW σ tc n S μ)[k]? = some (σ k, zE σ tc sh (μ k)) := by
  rw [zW_get h, hs]
theorem zW_none {σ : Nat → Nat} {tc : Nat → ClassId} {n : Nat} {S : Nat → zSh} {μ : zMem} {k : Nat} (h : ¬ k < n) : (zW σ tc n S μ)[k]? = none := by
  unfold zW
  rw [List.getElem?_map, List.getElem?_eq_none (by rw [List.length_range]; omega)]
  rfl
theorem zW_inv {σ : Nat → Nat} {tc : Nat → ClassId} {n : Nat} {S : Nat → zSh} {μ : zMem} {k : Nat} {q : Nat × va_E} (h : (zW σ tc n S μ)[k]? = some q) : k < n ∧ q = (σ k, zE σ tc (S k) (μ k)) := by
  by_cases hk : k < n
  · rw [zW_get hk] at h
    exact ⟨hk, (Option.some.inj h).symm⟩
  · rw [zW_none hk] at h
    cases h
/-- one row of the memory anew -/
def zup (μ : zMem) (k : Nat) (f : Nat → Int32) : zMem := fun q => if q = k then f else μ q
/-- one number of the memory anew -/
def zset (μ : zMem) (k j : Nat) (v : Int32) : zMem := zup μ k (fun i => if i = j then v else μ k i)
theorem zW_set {σ : Nat → Nat} {tc : Nat → ClassId} {n : Nat} {S : Nat → zSh} {μ : zMem} {k : Nat} {f : Nat → Int32} {e : va_E} (he : e = zE σ tc (S k) f) : (zW σ tc n S μ).set k (σ k, e) = zW σ tc n S (zup μ k f) := by
  subst he
  apply List.ext_getElem?
  intro i
  by_cases hi : i < n
  · rw [zW_get hi]
    by_cases hk : i = k
    · subst hk
      rw [List.getElem?_set_self (by unfold zW; rw [List.length_map, List.length_range]; exact hi)]
      unfold zup
      rw [if_pos rfl]
    · rw [List.getElem?_set_ne (fun q => hk q.symm), zW_get hi]
      unfold zup
      rw [if_neg hk]
  · rw [zW_none hi, List.getElem?_eq_none (by rw [List.length_set]; unfold zW; rw [List.length_map, List.length_range]; omega)]
def zTys (tc : Nat → ClassId) : List (ClassId × FieldType) := [(tc 0, .int), (tc 1, .boolean), (tc 2, .array .int), (tc 3, .array .boolean), (tc 4, .object RX5), (tc 5, .long)]
/-- the good words of the tables -/
def zTb : List Cond := lw_tbl.filter goodWord
theorem zTb_mem {w : Cond} (h : w ∈ lw_tbl) (hg : goodWord w = true) : w ∈ zTb := List.mem_filter.mpr ⟨h, hg⟩
theorem zTb_good : GoodIn zTb zTb := fun w h => ⟨h, good_of_word (List.mem_filter.mp h).2⟩
def zIsN (w : Cond) : Bool := match w with
  | .fieldLinkNest _ _ _ _ _ _ => true
  | .methodLinkNest _ _ _ _ => true
  | .castable _ _ => true
  | .declares _ => true
  | _ => false
def zIsO (w : Cond) : Bool := match w with
  | .arrayOver _ => true
  | _ => false
/-- the words on nest mates -/
def zNs : List Cond := lw_tbl.filter (fun w => zIsN w || zIsO w)
def zNw (U : State) : Prop := ∀ w ∈ zNs, va_Nw w U
theorem zcast_moved {a b : String} {u U : State} (hvm : u.vm.Alike U.vm) (h : va_Nw (.castable a b) u) : va_Nw (.castable a b) U := by
  have e := Cond.onTables_vm (A := #[]) (A' := #[]) (U := u) (U' := U) U.vm (.castable a b) rfl
  have hU : U.setVm U.vm = U := rfl
  rw [hU] at e
  show (Cond.castable a b).before #[] U = true
  rw [← e, Cond.castable_setVm hvm]
  exact h
theorem zdecl_moved {x : MethodName} {u U : State} (hvm : u.vm.Alike U.vm) (h : va_Nw (.declares x) u) : va_Nw (.declares x) U := by
  have e := Cond.onTables_vm (A := #[]) (A' := #[]) (U := u) (U' := U) U.vm (.declares x) rfl
  have hU : U.setVm U.vm = U := rfl
  rw [hU] at e
  show (Cond.declares x).before #[] U = true
  rw [← e, Cond.declares_setVm hvm]
  exact h
theorem zover_moved {ty : FieldType} {u U : State} (hvm : u.vm.Alike U.vm) (h : va_Nw (.arrayOver ty) u) : va_Nw (.arrayOver ty) U := by
  have h1 : (Cond.arrayOver ty).before #[] (u.setVm U.vm) = true := Cond.overAtom_setVm hvm (.arrayOver ty) rfl h
  exact h1
theorem zNw.warm {s U : State} (hW : s.WarmedH U.vm) (h : zNw s) : zNw U := by
  intro w hw
  have h1 := h w hw
  have h2 := (List.mem_filter.mp hw).2
  cases w <;> first | exact va_Nw.warmF hW h1 | exact va_Nw.warmM hW h1 | exact zcast_moved hW.alike h1 | exact zdecl_moved hW.alike h1 | exact zover_moved hW.alike h1 | cases h2
theorem zNw.same {s U : State} (hv : s.vm = U.vm) (h : zNw s) : zNw U := by
  intro w hw
  have h1 := h w hw
  have h2 := (List.mem_filter.mp hw).2
  cases w <;> first | exact va_Nw.same rfl hv h1 | exact zover_moved (by rw [hv]; exact Vm.Alike.refl _) h1 | cases h2
/-- the String constants: class, entry, text; the first eight are the reader's words -/
def zStrs : List (String × Nat × String) := [("TwoHandles$Reader", 142, "asks"), ("TwoHandles$Reader", 147, "person"), ("TwoHandles$Reader", 149, "feigns"), ("TwoHandles$Reader", 151, "kin"), ("TwoHandles$Reader", 153, "door"), ("TwoHandles$Reader", 155, "gap"), ("TwoHandles$Reader", 156, "day"), ("TwoHandles$Reader", 157, "slate"), ("TwoHandles", 98, "not so many bytes on the tape"), ("TwoHandles", 138, "no such what"), ("TwoHandles", 201, "there is no town"), ("TwoHandles", 210, "nobody talks with himself"), ("TwoHandles", 266, "no such stranger"), ("TwoHandles", 302, "not two to four persons"), ("TwoHandles", 342, "no such person"), ("TwoHandles", 367, "no such door"), ("TwoHandles", 370, "no such question"), ("TwoHandles", 372, "no such day"), ("TwoHandles", 374, "not so many days"), ("TwoHandles", 376, "no such rule"), ("TwoHandles", 378, "no such stake")]
def zStrLen : List Nat := [4, 6, 6, 3, 4, 3, 3, 5]
def zStrByt : List (List Int32) := [[97, 115, 107, 115], [112, 101, 114, 115, 111, 110], [102, 101, 105, 103, 110, 115], [107, 105, 110], [100, 111, 111, 114], [103, 97, 112], [100, 97, 121], [115, 108, 97, 116, 101]]
/-- what the start gives of the heap: Throwable's statics, the String constants -/
def zXs : List String := ["java/lang/IllegalArgumentException", "java/util/NoSuchElementException", "java/lang/IndexOutOfBoundsException", "java/lang/IllegalStateException"]
/-- none of the four exceptions is another -/
def zNc (U : State) : Prop := ∀ a ∈ zXs, ∀ b ∈ zXs, a ≠ b → va_Nc a b U
theorem zNc.moved {u U : State} (hvm : u.vm.Alike U.vm) (h : zNc u) : zNc U := fun a ha b hb hab => va_Nc.moved hvm (h a ha b hb hab)
def zG (adK adV : Nat → Nat) (A : Nat → Prop) (U : State) (H : Heap) : Prop :=
  vx_Zq Bundle.tN "UNASSIGNED_STACK" Bundle.steD A U H ∧ vx_Zq Bundle.tN "SUPPRESSED_SENTINEL" Bundle.listD A U H ∧ vk_S 8 zStrLen zStrByt adK adV A U H ∧ (∀ (i : Nat) (q : String × Nat × String), zStrs[i]? = some q → vk_R q.1 q.2.1 q.2.2 (adK i) U) ∧ zNw U ∧
  va_Z "java/lang/String" "COMPACT_STRINGS" "Z" (.int 1) A U H ∧ va_Zq "jdk/internal/util/Preconditions" "SIOOBE_FORMATTER" "Ljava/util/function/BiFunction;" A U H ∧ (∀ i, adV i = adK (1000000 + i)) ∧ zNc U
theorem zG.kept {adK adV : Nat → Nat} {A : Nat → Prop} {U : State} {H H1 : Heap} (h : zG adK adV A U H) (hq : ∀ a : Nat, a < H.size → ¬ A a → H1[a]? = H[a]?) : zG adK adV A U H1 :=
  ⟨h.1.kept hq, h.2.1.kept hq, h.2.2.1.kept hq, h.2.2.2.1, h.2.2.2.2.1, h.2.2.2.2.2.1.kept hq, h.2.2.2.2.2.2.1.kept hq, h.2.2.2.2.2.2.2⟩
theorem zG.narrow {adK adV : Nat → Nat} {A B : Nat → Prop} {U : State} {H : Heap} (h : zG adK adV A U H) (hAB : ∀ q, B q → A q) : zG adK adV B U H :=
  ⟨h.1.narrow hAB, h.2.1.narrow hAB, h.2.2.1.narrow hAB, h.2.2.2.1, h.2.2.2.2.1, h.2.2.2.2.2.1.narrow hAB, h.2.2.2.2.2.2.1.narrow hAB, h.2.2.2.2.2.2.2⟩
theorem zG.warm {adK adV : Nat → Nat} {A : Nat → Prop} {s U : State} {H : Heap} (hW : s.WarmedH U.vm) (h : zG adK adV A s H) : zG adK adV A U H :=
  ⟨vx_Zq.moved hW.alike h.1, vx_Zq.moved hW.alike h.2.1, vk_S.moved hW.alike h.2.2.1, fun i q hq => vk_R.warm hW (h.2.2.2.1 i q hq), h.2.2.2.2.1.warm hW, va_Z.moved hW.alike h.2.2.2.2.2.1, va_Zq.moved hW.alike h.2.2.2.2.2.2.1, h.2.2.2.2.2.2.2.1, h.2.2.2.2.2.2.2.2.moved hW.alike⟩
theorem zG.same {adK adV : Nat → Nat} {A : Nat → Prop} {s U : State} {H : Heap} (hv : U.vm = s.vm) (h : zG adK adV A s H) : zG adK adV A U H := by
  have ha : s.vm.Alike U.vm := by rw [hv]; exact Vm.Alike.refl _
  exact ⟨vx_Zq.moved ha h.1, vx_Zq.moved ha h.2.1, vk_S.moved ha h.2.2.1, fun i q hq => vk_R.same hv (h.2.2.2.1 i q hq), h.2.2.2.2.1.same hv.symm, va_Z.moved ha h.2.2.2.2.2.1, va_Zq.moved ha h.2.2.2.2.2.2.1, h.2.2.2.2.2.2.2.1, h.2.2.2.2.2.2.2.2.moved ha⟩
/-- what holds in a method's frame all along -/
def zC (y : MethodName) (cc : ByteArray) (nL : Nat) (ret : Option FieldType) (d : Nat) (p : Program) (l : Launch) (R : Room) (s : State) (m : MethodId) (args : Array Value) (meth : Method) (c : Code) (D : va_G) (A : Nat → Prop) (tc : Nat → ClassId) (adK adV : Nat → Nat) : Prop :=
  p.tables.exec = Jvm.exec ∧ c.code = cc ∧ c.maxLocals = nL ∧ s.vm.findClass y.cls = some m.cls ∧ meth.sig.returnType = ret ∧ meth.locks = false ∧ meth.name = y.name ∧ (∀ x ∈ c.exceptionTable.toList, False) ∧ (∀ w ∈ zTb, w.before args s = true) ∧ va_K D zCl (zTys tc) s ∧ (∀ q, s.heap.size ≤ q → A q) ∧ zG adK adV A s s.heap ∧ l.stackTraces = false ∧ d ≤ R.frames ∧ 41 * d ≤ R.locals
/-- an ending: the answer or the exception's class, the keys, shapes and numbers then, how many cells and slots are new -/
abbrev zO : Type := (Option Value ⊕ String) × Nat × (Nat → zSh) × zMem × Nat × Nat
def zAg (σ0 : Nat → Nat) (n0 : Nat) (σ adK : Nat → Nat) : Prop := (∀ k, k < n0 → σ k = σ0 k) ∧ ∀ i, σ (1000000 + i) = adK i
def zHe (D : va_G) (A : Nat → Prop) (tc adK : Nat → Nat) (σ0 : Nat → Nat) (n0 : Nat) (σ : Nat → Nat) (n : Nat) (S : Nat → zSh) (μ : zMem) (H : Heap) : Prop :=
  zAg σ0 n0 σ adK ∧ va_P D zCl (zW σ tc n S μ) H ∧ va_D A (zW σ tc n S μ) ∧ (n = n0 → σ = σ0)
def zQc (D : va_G) (A : Nat → Prop) (tc adK : Nat → Nat) (σ0 : Nat → Nat) (n0 : Nat) (o : zO) : Array Value → State → Outcome → State → Prop := fun _ st oc t =>
  (∃ (σ : Nat → Nat) (v : Option Value), o.1 = .inl v ∧ oc = .returned (v.map (cv σ)) ∧ zHe D A tc adK σ0 n0 σ o.2.1 o.2.2.1 o.2.2.2.1 t.heap) ∧ va_F A st t
def zXC (D : va_G) (A : Nat → Prop) (tc adK : Nat → Nat) (σ0 : Nat → Nat) (n0 : Nat) (o : zO) : String → State → State → Prop := fun E st t =>
  (o.1 = .inr E ∧ ∃ σ : Nat → Nat, zHe D A tc adK σ0 n0 σ o.2.1 o.2.2.1 o.2.2.2.1 t.heap) ∧ va_F A st t
def zls (σ : Nat → Nat) (L : List Value) : List (Nat × Value) := (List.range L.length).filterMap (fun i => match (L[i]? : Option Value) with
  | some Value.null => none
  | some v => some (i, cv σ v)
  | none => none)
theorem zls_mem {σ : Nat → Nat} {L : List Value} {i : Nat} {v : Value} (h : L[i]? = some v) (hn : v ≠ .null) : (i, cv σ v) ∈ zls σ L := by
  unfold zls
  rw [List.mem_filterMap]
  refine ⟨i, List.mem_range.mpr (List.getElem?_eq_some_iff.mp h).1, ?_⟩
  rw [h]
  cases v <;> first | rfl | exact absurd rfl hn
theorem zls_inv {σ : Nat → Nat} {L : List Value} {q : Nat × Value} (h : q ∈ zls σ L) : ∃ v, L[q.1]? = some v ∧ v ≠ .null ∧ q.2 = cv σ v := by
  unfold zls at h
  rw [List.mem_filterMap] at h
  obtain ⟨i, -, h⟩ := h
  cases hv : L[i]? with
  | none => rw [hv] at h; cases h
  | some v =>
    rw [hv] at h
    cases v <;> first | (cases h; done) | (cases h; exact ⟨_, hv, (fun e => by cases e), rfl⟩)
/-- the locals -/
def zL (σ : Nat → Nat) (nL : Nat) (L : List Value) (ls : Array Slot) : Prop := lv_has ls nL (zls σ L) ∧ ∀ v ∈ L, v.category = 1
theorem zL_at {σ : Nat → Nat} {nL : Nat} {L : List Value} {ls : Array Slot} (h : zL σ nL L ls) {i : Nat} {v : Value} (hi : L[i]? = some v) (hn : v ≠ .null) : ls[i]? = some (.val (cv σ v)) := h.1.2.2 (i, cv σ v) (zls_mem hi hn)
theorem zL_set {σ : Nat → Nat} {nL : Nat} {L : List Value} {ls : Array Slot} {i : Nat} {v : Value} (h : zL σ nL L ls) (hv : v.category = 1) {lv' : List (Nat × Value)} (hl : (i, cv σ v) :: (zls σ L).filter (fun q => !(q.1 == i) && !(q.1 + 1 == i && q.2.category == 2)) = lv') {ls' : Array Slot} (h' : lv_has ls' nL lv') : zL σ nL (L.set i v) ls' := by
  refine ⟨⟨h'.1, h'.2.1, fun q hq => ?_⟩, fun w hw => ?_⟩
  · obtain ⟨w, h1, h2, h3⟩ := zls_inv hq
    by_cases e : q.1 = i
    · have h4 : (L.set i v)[i]? = some w := by rw [e] at h1; exact h1
      have hlt : i < L.length := by
        have := (List.getElem?_eq_some_iff.mp h4).1
        rwa [List.length_set] at this
      rw [List.getElem?_set_self hlt] at h4
      cases h4
      have : q = (i, cv σ v) := Prod.ext e h3
      rw [this]
      exact h'.2.2 _ (by rw [← hl]; exact List.mem_cons_self)
    · rw [List.getElem?_set_ne (fun z => e z.symm)] at h1
      have hm : q ∈ zls σ L := by
        have := zls_mem (σ := σ) h1 h2
        rw [← h3] at this
        exact this
      refine h'.2.2 _ ?_
      rw [← hl]
      refine List.mem_cons_of_mem _ (List.mem_filter.mpr ⟨hm, ?_⟩)
      have hc : q.2.category = 1 := by rw [h3, cv_cat]; exact h.2 w (List.mem_of_getElem? h1)
      simp [e, hc]
  · rcases List.mem_or_eq_of_mem_set hw with h1 | h1
    · exact h.2 w h1
    · rw [h1]; exact hv
theorem zL_sub {σ : Nat → Nat} {nL : Nat} {L L' : List Value} {ls : Array Slot} (h : zL σ nL L ls) (hs : ∀ (i : Nat) (v : Value), L'[i]? = some v → v ≠ .null → L[i]? = some v) : zL σ nL L' ls := by
  refine ⟨⟨h.1.1, h.1.2.1, fun q hq => ?_⟩, fun v hv => ?_⟩
  · obtain ⟨v, h1, h2, h3⟩ := zls_inv hq
    have := zL_at h (hs _ _ h1 h2) h2
    rw [← h3] at this
    exact this
  · obtain ⟨i, hi⟩ := List.getElem?_of_mem hv
    by_cases hn : v = .null
    · rw [hn]; rfl
    · exact h.2 v (List.mem_of_getElem? (hs i v hi hn))
/-- from this frame the machine ends the method by o -/
def zAW (y : MethodName) (cc : ByteArray) (nL : Nat) (ret : Option FieldType) (d pc : Nat) (L st : List Value) (n : Nat) (S : Nat → zSh) (μ : zMem) (o : zO) : Prop :=
  ∀ (p : Program) (l : Launch) (e : Env) (R : Room) (s : State) (m : MethodId) (args : Array Value) (below : List Frame) (meth : Method) (c : Code) (D : va_G) (A : Nat → Prop) (tc adK adV : Nat → Nat), zC y cc nL ret d p l R s m args meth c D A tc adK adV →
  ∀ (σ0 : Nat → Nat) (n0 : Nat) (σ : Nat → Nat) (H : Heap) (locs : List Loc) (ls : Array Slot) (cells slots mc ms : Nat), (n0 ≤ n ∧ zHe D A tc adK σ0 n0 σ n S μ H) → va_S A s.heap H locs → zL σ nL L ls → (cells + o.2.2.2.2.1 ≤ mc ∧ slots + o.2.2.2.2.2 ≤ ms ∧ mc ≤ R.cells ∧ ms ≤ R.slots) →
  W p l e R s m args below meth c H locs cells slots (vx_MQ below (zQc D A tc adK σ0 n0 o) (zXC D A tc adK σ0 n0 o) args s mc ms A) (F0 m pc ls (st.map (cv σ)))
