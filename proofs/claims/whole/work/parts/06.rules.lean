/-! THE ROWS: one an instruction, over zR -/
/-- what a method's functional text answers: 0 and the answer and the memory, or an exception's number; none: it says nothing -/
abbrev zRes : Type := Option (Nat × Int32 × zMem)
def zExn : Nat → String := fun e => match e with
  | 1 => "java/lang/IllegalArgumentException"
  | 2 => "java/util/NoSuchElementException"
  | 3 => "java/lang/IndexOutOfBoundsException"
  | _ => "java/lang/IllegalStateException"
def zRv (ret : Option FieldType) (v : Int32) : Option Value := match ret with
  | none => none
  | some _ => some (.int v)
def zOut (ret : Option FieldType) (n : Nat) (S : Nat → zSh) (q : Nat × Int32 × zMem) : zO := ((if q.1 = 0 then .inl (zRv ret q.2.1) else .inr (zExn q.1)), n, S, q.2.2, (if q.1 = 0 then 0 else 1), (if q.1 = 0 then 0 else 6))
def bnd (r : zRes) (k : Int32 → zMem → zRes) : zRes := match r with
  | none => none
  | some (0, v, μ) => k v μ
  | some (e + 1, v, μ) => some (e + 1, v, μ)
def zR (y : MethodName) (cc : ByteArray) (nL : Nat) (ret : Option FieldType) (d pc : Nat) (L st : List Value) (n : Nat) (S : Nat → zSh) (μ : zMem) (r : zRes) : Prop := ∀ q, r = some q → zAW y cc nL ret d pc L st n S μ (zOut ret n S q)
def zin (i : Int32) (N : Nat) (A : zRes) : zRes := if i < 0 ∨ N ≤ i.toNatClampNeg then none else A
def znz (x : Int32) (A : zRes) : zRes := if x = 0 then none else A
def zbl (x : Int32) (A : zRes) : zRes := if x = 0 ∨ x = 1 then A else none
def zrem (x y : Int32) : Int32 := x - x / y * y
def zshl (x y : Int32) : Int32 := x <<< (y &&& 31)
def zshr (x y : Int32) : Int32 := x >>> (y &&& 31)
def zushr (x y : Int32) : Int32 := (x.toUInt32 >>> (y.toUInt32 &&& Int32.toUInt32 31)).toInt32
def zmin (x y : Int32) : Int32 := if y < x then y else x
def zmax (x y : Int32) : Int32 := if x < y then y else x
def zabs (x : Int32) : Int32 := if 0 ≤ x then x else 0 - x
section ZR
variable {y : MethodName} {cc : ByteArray} {nL : Nat} {ret : Option FieldType} {d pc : Nat} {L st : List Value} {n : Nat} {S : Nat → zSh} {μ : zMem} {r : zRes}
theorem z_iadd {a b : Int32} (dg : decode cc pc = .ok (.iadd, 1)) (k : zR y cc nL ret d (pc + 1) (L) (.int (a + b) :: st) n S (μ) (r)) : zR y cc nL ret d (pc) (L) (.int b :: .int a :: st) n S (μ) (r) := fun q hq p l e R s m args below meth c D A tc adK adV C σ0 n0 σ H locs ls cells slots mc ms hH hS hl hB => lv_iadd C.1 C.2.1 dg (k q hq p l e R s m args below meth c D A tc adK adV C σ0 n0 σ H locs ls cells slots mc ms hH hS hl hB)
theorem z_isub {a b : Int32} (dg : decode cc pc = .ok (.isub, 1)) (k : zR y cc nL ret d (pc + 1) (L) (.int (a - b) :: st) n S (μ) (r)) : zR y cc nL ret d (pc) (L) (.int b :: .int a :: st) n S (μ) (r) := fun q hq p l e R s m args below meth c D A tc adK adV C σ0 n0 σ H locs ls cells slots mc ms hH hS hl hB => lv_isub C.1 C.2.1 dg (k q hq p l e R s m args below meth c D A tc adK adV C σ0 n0 σ H locs ls cells slots mc ms hH hS hl hB)
theorem z_imul {a b : Int32} (dg : decode cc pc = .ok (.imul, 1)) (k : zR y cc nL ret d (pc + 1) (L) (.int (a * b) :: st) n S (μ) (r)) : zR y cc nL ret d (pc) (L) (.int b :: .int a :: st) n S (μ) (r) := fun q hq p l e R s m args below meth c D A tc adK adV C σ0 n0 σ H locs ls cells slots mc ms hH hS hl hB => lv_imul C.1 C.2.1 dg (k q hq p l e R s m args below meth c D A tc adK adV C σ0 n0 σ H locs ls cells slots mc ms hH hS hl hB)
theorem z_iand {a b : Int32} (dg : decode cc pc = .ok (.iand, 1)) (k : zR y cc nL ret d (pc + 1) (L) (.int (a &&& b) :: st) n S (μ) (r)) : zR y cc nL ret d (pc) (L) (.int b :: .int a :: st) n S (μ) (r) := fun q hq p l e R s m args below meth c D A tc adK adV C σ0 n0 σ H locs ls cells slots mc ms hH hS hl hB => lv_iand C.1 C.2.1 dg (k q hq p l e R s m args below meth c D A tc adK adV C σ0 n0 σ H locs ls cells slots mc ms hH hS hl hB)
theorem z_ior {a b : Int32} (dg : decode cc pc = .ok (.ior, 1)) (k : zR y cc nL ret d (pc + 1) (L) (.int (a ||| b) :: st) n S (μ) (r)) : zR y cc nL ret d (pc) (L) (.int b :: .int a :: st) n S (μ) (r) := fun q hq p l e R s m args below meth c D A tc adK adV C σ0 n0 σ H locs ls cells slots mc ms hH hS hl hB => lv_ior C.1 C.2.1 dg (k q hq p l e R s m args below meth c D A tc adK adV C σ0 n0 σ H locs ls cells slots mc ms hH hS hl hB)
theorem z_ixor {a b : Int32} (dg : decode cc pc = .ok (.ixor, 1)) (k : zR y cc nL ret d (pc + 1) (L) (.int (a ^^^ b) :: st) n S (μ) (r)) : zR y cc nL ret d (pc) (L) (.int b :: .int a :: st) n S (μ) (r) := fun q hq p l e R s m args below meth c D A tc adK adV C σ0 n0 σ H locs ls cells slots mc ms hH hS hl hB => lv_ixor C.1 C.2.1 dg (k q hq p l e R s m args below meth c D A tc adK adV C σ0 n0 σ H locs ls cells slots mc ms hH hS hl hB)
theorem z_ishl {a b : Int32} (dg : decode cc pc = .ok (.ishl, 1)) (k : zR y cc nL ret d (pc + 1) (L) (.int (zshl a b) :: st) n S (μ) (r)) : zR y cc nL ret d (pc) (L) (.int b :: .int a :: st) n S (μ) (r) := fun q hq p l e R s m args below meth c D A tc adK adV C σ0 n0 σ H locs ls cells slots mc ms hH hS hl hB => lv_ishl C.1 C.2.1 dg (k q hq p l e R s m args below meth c D A tc adK adV C σ0 n0 σ H locs ls cells slots mc ms hH hS hl hB)
theorem z_ishr {a b : Int32} (dg : decode cc pc = .ok (.ishr, 1)) (k : zR y cc nL ret d (pc + 1) (L) (.int (zshr a b) :: st) n S (μ) (r)) : zR y cc nL ret d (pc) (L) (.int b :: .int a :: st) n S (μ) (r) := fun q hq p l e R s m args below meth c D A tc adK adV C σ0 n0 σ H locs ls cells slots mc ms hH hS hl hB => lv_ishr C.1 C.2.1 dg (k q hq p l e R s m args below meth c D A tc adK adV C σ0 n0 σ H locs ls cells slots mc ms hH hS hl hB)
theorem z_iushr {a b : Int32} (dg : decode cc pc = .ok (.iushr, 1)) (k : zR y cc nL ret d (pc + 1) (L) (.int (zushr a b) :: st) n S (μ) (r)) : zR y cc nL ret d (pc) (L) (.int b :: .int a :: st) n S (μ) (r) := fun q hq p l e R s m args below meth c D A tc adK adV C σ0 n0 σ H locs ls cells slots mc ms hH hS hl hB => lv_iushr C.1 C.2.1 dg rfl (k q hq p l e R s m args below meth c D A tc adK adV C σ0 n0 σ H locs ls cells slots mc ms hH hS hl hB)
theorem z_ineg {a : Int32} (dg : decode cc pc = .ok (.ineg, 1)) (k : zR y cc nL ret d (pc + 1) (L) (.int (-a) :: st) n S (μ) (r)) : zR y cc nL ret d (pc) (L) (.int a :: st) n S (μ) (r) := fun q hq p l e R s m args below meth c D A tc adK adV C σ0 n0 σ H locs ls cells slots mc ms hH hS hl hB => lv_ineg C.1 C.2.1 dg (k q hq p l e R s m args below meth c D A tc adK adV C σ0 n0 σ H locs ls cells slots mc ms hH hS hl hB)
theorem z_idivc {a b : Int32} (dg : decode cc pc = .ok (.idiv, 1)) (hb : ¬ b = 0) (k : zR y cc nL ret d (pc + 1) (L) (.int (a / b) :: st) n S (μ) (r)) : zR y cc nL ret d (pc) (L) (.int b :: .int a :: st) n S (μ) (r) := fun q hq p l e R s m args below meth c D A tc adK adV C σ0 n0 σ H locs ls cells slots mc ms hH hS hl hB => lv_idiv C.1 C.2.1 dg hb (k q hq p l e R s m args below meth c D A tc adK adV C σ0 n0 σ H locs ls cells slots mc ms hH hS hl hB)
theorem z_idiv {a b : Int32} (dg : decode cc pc = .ok (.idiv, 1)) (k : ¬ b = 0 → zR y cc nL ret d (pc + 1) (L) (.int (a / b) :: st) n S (μ) (r)) : zR y cc nL ret d (pc) (L) (.int b :: .int a :: st) n S (μ) (znz b r) := by
  intro q hq p l e R s m args below meth c D A tc adK adV C σ0 n0 σ H locs ls cells slots mc ms hH hS hl hB
  by_cases hb : b = 0
  · unfold znz at hq; rw [if_pos hb] at hq; cases hq
  · unfold znz at hq; rw [if_neg hb] at hq
    exact lv_idiv C.1 C.2.1 dg hb (k hb q hq p l e R s m args below meth c D A tc adK adV C σ0 n0 σ H locs ls cells slots mc ms hH hS hl hB)
theorem z_iremc {a b : Int32} (dg : decode cc pc = .ok (.irem, 1)) (hb : ¬ b = 0) (k : zR y cc nL ret d (pc + 1) (L) (.int (zrem a b) :: st) n S (μ) (r)) : zR y cc nL ret d (pc) (L) (.int b :: .int a :: st) n S (μ) (r) := fun q hq p l e R s m args below meth c D A tc adK adV C σ0 n0 σ H locs ls cells slots mc ms hH hS hl hB => lv_irem C.1 C.2.1 dg hb (k q hq p l e R s m args below meth c D A tc adK adV C σ0 n0 σ H locs ls cells slots mc ms hH hS hl hB)
theorem z_irem {a b : Int32} (dg : decode cc pc = .ok (.irem, 1)) (k : ¬ b = 0 → zR y cc nL ret d (pc + 1) (L) (.int (zrem a b) :: st) n S (μ) (r)) : zR y cc nL ret d (pc) (L) (.int b :: .int a :: st) n S (μ) (znz b r) := by
  intro q hq p l e R s m args below meth c D A tc adK adV C σ0 n0 σ H locs ls cells slots mc ms hH hS hl hB
  by_cases hb : b = 0
  · unfold znz at hq; rw [if_pos hb] at hq; cases hq
  · unfold znz at hq; rw [if_neg hb] at hq
    exact lv_irem C.1 C.2.1 dg hb (k hb q hq p l e R s m args below meth c D A tc adK adV C σ0 n0 σ H locs ls cells slots mc ms hH hS hl hB)
theorem z_iconst {z : Int} (v : Int32) (dg : decode cc pc = .ok (.iconst z, 1)) (hv : Int32.ofInt z = v) (k : zR y cc nL ret d (pc + 1) (L) (.int v :: st) n S (μ) (r)) : zR y cc nL ret d (pc) (L) (st) n S (μ) (r) := fun q hq p l e R s m args below meth c D A tc adK adV C σ0 n0 σ H locs ls cells slots mc ms hH hS hl hB => lv_iconst C.1 C.2.1 dg hv (k q hq p l e R s m args below meth c D A tc adK adV C σ0 n0 σ H locs ls cells slots mc ms hH hS hl hB)
theorem z_bipush {z : Int} (v : Int32) (dg : decode cc pc = .ok (.bipush z, 2)) (hv : (Int8.ofInt z).toInt32 = v) (k : zR y cc nL ret d (pc + 2) (L) (.int v :: st) n S (μ) (r)) : zR y cc nL ret d (pc) (L) (st) n S (μ) (r) := fun q hq p l e R s m args below meth c D A tc adK adV C σ0 n0 σ H locs ls cells slots mc ms hH hS hl hB => lv_bipush C.1 C.2.1 dg hv (k q hq p l e R s m args below meth c D A tc adK adV C σ0 n0 σ H locs ls cells slots mc ms hH hS hl hB)
theorem z_sipush {z : Int} (v : Int32) (dg : decode cc pc = .ok (.sipush z, 3)) (hv : (Int16.ofInt z).toInt32 = v) (k : zR y cc nL ret d (pc + 3) (L) (.int v :: st) n S (μ) (r)) : zR y cc nL ret d (pc) (L) (st) n S (μ) (r) := fun q hq p l e R s m args below meth c D A tc adK adV C σ0 n0 σ H locs ls cells slots mc ms hH hS hl hB => lv_sipush C.1 C.2.1 dg hv (k q hq p l e R s m args below meth c D A tc adK adV C σ0 n0 σ H locs ls cells slots mc ms hH hS hl hB)
theorem z_ldc {index : Nat} (v : Int32) (hc : Cond.constant y.cls index v ∈ zTb) (dg : decode cc pc = .ok (.ldc index, 2)) (k : zR y cc nL ret d (pc + 2) (L) (.int v :: st) n S (μ) (r)) : zR y cc nL ret d (pc) (L) (st) n S (μ) (r) := fun q hq p l e R s m args below meth c D A tc adK adV C σ0 n0 σ H locs ls cells slots mc ms hH hS hl hB => lv_ldc C.1 C.2.1 C.2.2.2.1 (C.2.2.2.2.2.2.2.2.1 _ hc) dg (k q hq p l e R s m args below meth c D A tc adK adV C σ0 n0 σ H locs ls cells slots mc ms hH hS hl hB)
theorem z_ldcw {index : Nat} (v : Int32) (hc : Cond.constant y.cls index v ∈ zTb) (dg : decode cc pc = .ok (.ldc_w index, 3)) (k : zR y cc nL ret d (pc + 3) (L) (.int v :: st) n S (μ) (r)) : zR y cc nL ret d (pc) (L) (st) n S (μ) (r) := fun q hq p l e R s m args below meth c D A tc adK adV C σ0 n0 σ H locs ls cells slots mc ms hH hS hl hB => lv_ldcw C.1 C.2.1 C.2.2.2.1 (C.2.2.2.2.2.2.2.2.1 _ hc) dg (k q hq p l e R s m args below meth c D A tc adK adV C σ0 n0 σ H locs ls cells slots mc ms hH hS hl hB)
theorem z_iload_n {i : Fin 4} {x : Int32} (dg : decode cc pc = .ok (.iload_n i, 1)) (hL : L[(i : Nat)]? = some (.int x)) (k : zR y cc nL ret d (pc + 1) (L) (.int x :: st) n S (μ) (r)) : zR y cc nL ret d (pc) (L) (st) n S (μ) (r) := fun q hq p l e R s m args below meth c D A tc adK adV C σ0 n0 σ H locs ls cells slots mc ms hH hS hl hB => lv_iload_n C.1 C.2.1 dg rfl (zL_at hl hL (fun h => by cases h)) (k q hq p l e R s m args below meth c D A tc adK adV C σ0 n0 σ H locs ls cells slots mc ms hH hS hl hB)
theorem z_iload {i : Nat} {x : Int32} (dg : decode cc pc = .ok (.iload i, 2)) (hL : L[i]? = some (.int x)) (k : zR y cc nL ret d (pc + 2) (L) (.int x :: st) n S (μ) (r)) : zR y cc nL ret d (pc) (L) (st) n S (μ) (r) := fun q hq p l e R s m args below meth c D A tc adK adV C σ0 n0 σ H locs ls cells slots mc ms hH hS hl hB => lv_iload C.1 C.2.1 dg (zL_at hl hL (fun h => by cases h)) (k q hq p l e R s m args below meth c D A tc adK adV C σ0 n0 σ H locs ls cells slots mc ms hH hS hl hB)
theorem z_aload_n {i : Fin 4} {x : Nat} (dg : decode cc pc = .ok (.aload_n i, 1)) (hL : L[(i : Nat)]? = some (.ref x)) (k : zR y cc nL ret d (pc + 1) (L) (.ref x :: st) n S (μ) (r)) : zR y cc nL ret d (pc) (L) (st) n S (μ) (r) := fun q hq p l e R s m args below meth c D A tc adK adV C σ0 n0 σ H locs ls cells slots mc ms hH hS hl hB => lv_aload_n C.1 C.2.1 dg rfl (zL_at hl hL (fun h => by cases h)) (k q hq p l e R s m args below meth c D A tc adK adV C σ0 n0 σ H locs ls cells slots mc ms hH hS hl hB)
theorem z_aload {i : Nat} {x : Nat} (dg : decode cc pc = .ok (.aload i, 2)) (hL : L[i]? = some (.ref x)) (k : zR y cc nL ret d (pc + 2) (L) (.ref x :: st) n S (μ) (r)) : zR y cc nL ret d (pc) (L) (st) n S (μ) (r) := fun q hq p l e R s m args below meth c D A tc adK adV C σ0 n0 σ H locs ls cells slots mc ms hH hS hl hB => lv_aload C.1 C.2.1 dg (zL_at hl hL (fun h => by cases h)) (k q hq p l e R s m args below meth c D A tc adK adV C σ0 n0 σ H locs ls cells slots mc ms hH hS hl hB)
theorem z_istore_n {i : Fin 4} {x : Int32} {L' : List Value} (dg : decode cc pc = .ok (.istore_n i, 1)) (hn : (i : Nat) < nL) (hL : L.set (i : Nat) (.int x) = L') (k : zR y cc nL ret d (pc + 1) (L') (st) n S (μ) (r)) : zR y cc nL ret d (pc) (L) (.int x :: st) n S (μ) (r) := fun q hq p l e R s m args below meth c D A tc adK adV C σ0 n0 σ H locs ls cells slots mc ms hH hS hl hB => lv_istore_n C.1 C.2.1 dg rfl hl.1 hn rfl (fun ls' h' => (k q hq p l e R s m args below meth c D A tc adK adV C σ0 n0 σ H locs ls' cells slots mc ms hH hS (hL ▸ zL_set (v := .int x) hl rfl rfl h') hB))
theorem z_istore {i : Nat} {x : Int32} {L' : List Value} (dg : decode cc pc = .ok (.istore i, 2)) (hn : i < nL) (hL : L.set i (.int x) = L') (k : zR y cc nL ret d (pc + 2) (L') (st) n S (μ) (r)) : zR y cc nL ret d (pc) (L) (.int x :: st) n S (μ) (r) := fun q hq p l e R s m args below meth c D A tc adK adV C σ0 n0 σ H locs ls cells slots mc ms hH hS hl hB => lv_istore C.1 C.2.1 dg hl.1 hn rfl (fun ls' h' => (k q hq p l e R s m args below meth c D A tc adK adV C σ0 n0 σ H locs ls' cells slots mc ms hH hS (hL ▸ zL_set (v := .int x) hl rfl rfl h') hB))
theorem z_astore_n {i : Fin 4} {x : Nat} {L' : List Value} (dg : decode cc pc = .ok (.astore_n i, 1)) (hn : (i : Nat) < nL) (hL : L.set (i : Nat) (.ref x) = L') (k : zR y cc nL ret d (pc + 1) (L') (st) n S (μ) (r)) : zR y cc nL ret d (pc) (L) (.ref x :: st) n S (μ) (r) := fun q hq p l e R s m args below meth c D A tc adK adV C σ0 n0 σ H locs ls cells slots mc ms hH hS hl hB => lv_astore_n C.1 C.2.1 dg rfl hl.1 hn rfl (fun ls' h' => (k q hq p l e R s m args below meth c D A tc adK adV C σ0 n0 σ H locs ls' cells slots mc ms hH hS (hL ▸ zL_set (v := .ref x) hl rfl rfl h') hB))
theorem z_astore {i : Nat} {x : Nat} {L' : List Value} (dg : decode cc pc = .ok (.astore i, 2)) (hn : i < nL) (hL : L.set i (.ref x) = L') (k : zR y cc nL ret d (pc + 2) (L') (st) n S (μ) (r)) : zR y cc nL ret d (pc) (L) (.ref x :: st) n S (μ) (r) := fun q hq p l e R s m args below meth c D A tc adK adV C σ0 n0 σ H locs ls cells slots mc ms hH hS hl hB => lv_astore C.1 C.2.1 dg hl.1 hn rfl (fun ls' h' => (k q hq p l e R s m args below meth c D A tc adK adV C σ0 n0 σ H locs ls' cells slots mc ms hH hS (hL ▸ zL_set (v := .ref x) hl rfl rfl h') hB))
theorem z_iinc {i : Nat} {z : Int} {x v : Int32} {L' : List Value} (dg : decode cc pc = .ok (.iinc i z, 3)) (hn : i < nL) (hx : L[i]? = some (.int x)) (hv : x + Int32.ofInt z = v) (hL : L.set i (.int v) = L') (k : zR y cc nL ret d (pc + 3) (L') (st) n S (μ) (r)) : zR y cc nL ret d (pc) (L) (st) n S (μ) (r) := by
  intro q hq p l e R s m args below meth c D A tc adK adV C σ0 n0 σ H locs ls cells slots mc ms hH hS hl hB
  obtain ⟨j, hj⟩ := List.getElem?_of_mem (zls_mem (σ := σ) hx (fun h => by cases h))
  exact lv_iinc C.1 C.2.1 dg hl.1 hj hv hn rfl (fun ls' h' => (k q hq p l e R s m args below meth c D A tc adK adV C σ0 n0 σ H locs ls' cells slots mc ms hH hS (hL ▸ zL_set (v := .int v) hl rfl rfl h') hB))
theorem z_dup {v : Value} (dg : decode cc pc = .ok (.dup, 1)) (hv : v.category = 1) (k : zR y cc nL ret d (pc + 1) (L) (v :: v :: st) n S (μ) (r)) : zR y cc nL ret d (pc) (L) (v :: st) n S (μ) (r) := fun q hq p l e R s m args below meth c D A tc adK adV C σ0 n0 σ H locs ls cells slots mc ms hH hS hl hB => lv_dup C.1 C.2.1 dg ((cv_cat σ v).trans hv) (k q hq p l e R s m args below meth c D A tc adK adV C σ0 n0 σ H locs ls cells slots mc ms hH hS hl hB)
theorem z_dup2 {v w : Value} (dg : decode cc pc = .ok (.dup2, 1)) (hv : v.category = 1) (hw : w.category = 1) (k : zR y cc nL ret d (pc + 1) (L) (v :: w :: v :: w :: st) n S (μ) (r)) : zR y cc nL ret d (pc) (L) (v :: w :: st) n S (μ) (r) := fun q hq p l e R s m args below meth c D A tc adK adV C σ0 n0 σ H locs ls cells slots mc ms hH hS hl hB => lv_dup2_11 C.1 C.2.1 dg ((cv_cat σ v).trans hv) ((cv_cat σ w).trans hw) (k q hq p l e R s m args below meth c D A tc adK adV C σ0 n0 σ H locs ls cells slots mc ms hH hS hl hB)
theorem z_pop {v : Value} (dg : decode cc pc = .ok (.pop, 1)) (hv : v.category = 1) (k : zR y cc nL ret d (pc + 1) (L) (st) n S (μ) (r)) : zR y cc nL ret d (pc) (L) (v :: st) n S (μ) (r) := fun q hq p l e R s m args below meth c D A tc adK adV C σ0 n0 σ H locs ls cells slots mc ms hH hS hl hB => lv_pop C.1 C.2.1 dg ((cv_cat σ v).trans hv) (k q hq p l e R s m args below meth c D A tc adK adV C σ0 n0 σ H locs ls cells slots mc ms hH hS hl hB)
theorem z_goto {off : Int} {tgt : Nat} (dg : decode cc pc = .ok (.goto off, 3)) (ht : (pc : Int) + off = (tgt : Int)) (k : zR y cc nL ret d (tgt) (L) (st) n S (μ) (r)) : zR y cc nL ret d (pc) (L) (st) n S (μ) (r) := fun q hq p l e R s m args below meth c D A tc adK adV C σ0 n0 σ H locs ls cells slots mc ms hH hS hl hB => lv_goto C.1 C.2.1 dg ht (k q hq p l e R s m args below meth c D A tc adK adV C σ0 n0 σ H locs ls cells slots mc ms hH hS hl hB)
theorem z_if_eq {x : Int32} {off : Int} {tgt : Nat} {ra rb : zRes} (dg : decode cc pc = .ok (.ifCond .eq off, 3)) (ht : (pc : Int) + off = (tgt : Int)) (kt : x = 0 → zR y cc nL ret d (tgt) (L) (st) n S (μ) (ra)) (kf : ¬ x = 0 → zR y cc nL ret d (pc + 3) (L) (st) n S (μ) (rb)) : zR y cc nL ret d (pc) (L) (.int x :: st) n S (μ) (if x = 0 then ra else rb) := fun q hq p l e R s m args below meth c D A tc adK adV C σ0 n0 σ H locs ls cells slots mc ms hH hS hl hB => lv_if_eq C.1 C.2.1 dg ht (fun h => (kt h q (by rw [if_pos h] at hq; exact hq) p l e R s m args below meth c D A tc adK adV C σ0 n0 σ H locs ls cells slots mc ms hH hS hl hB)) (fun h => (kf h q (by rw [if_neg h] at hq; exact hq) p l e R s m args below meth c D A tc adK adV C σ0 n0 σ H locs ls cells slots mc ms hH hS hl hB))
theorem z_icmp_eq {x w : Int32} {off : Int} {tgt : Nat} {ra rb : zRes} (dg : decode cc pc = .ok (.if_icmp .eq off, 3)) (ht : (pc : Int) + off = (tgt : Int)) (kt : x = w → zR y cc nL ret d (tgt) (L) (st) n S (μ) (ra)) (kf : ¬ x = w → zR y cc nL ret d (pc + 3) (L) (st) n S (μ) (rb)) : zR y cc nL ret d (pc) (L) (.int w :: .int x :: st) n S (μ) (if x = w then ra else rb) := fun q hq p l e R s m args below meth c D A tc adK adV C σ0 n0 σ H locs ls cells slots mc ms hH hS hl hB => lv_icmp_eq C.1 C.2.1 dg ht (fun h => (kt h q (by rw [if_pos h] at hq; exact hq) p l e R s m args below meth c D A tc adK adV C σ0 n0 σ H locs ls cells slots mc ms hH hS hl hB)) (fun h => (kf h q (by rw [if_neg h] at hq; exact hq) p l e R s m args below meth c D A tc adK adV C σ0 n0 σ H locs ls cells slots mc ms hH hS hl hB))
theorem z_if_lt {x : Int32} {off : Int} {tgt : Nat} {ra rb : zRes} (dg : decode cc pc = .ok (.ifCond .lt off, 3)) (ht : (pc : Int) + off = (tgt : Int)) (kt : x < 0 → zR y cc nL ret d (tgt) (L) (st) n S (μ) (ra)) (kf : ¬ x < 0 → zR y cc nL ret d (pc + 3) (L) (st) n S (μ) (rb)) : zR y cc nL ret d (pc) (L) (.int x :: st) n S (μ) (if x < 0 then ra else rb) := fun q hq p l e R s m args below meth c D A tc adK adV C σ0 n0 σ H locs ls cells slots mc ms hH hS hl hB => lv_if_lt C.1 C.2.1 dg ht (fun h => (kt h q (by rw [if_pos h] at hq; exact hq) p l e R s m args below meth c D A tc adK adV C σ0 n0 σ H locs ls cells slots mc ms hH hS hl hB)) (fun h => (kf h q (by rw [if_neg h] at hq; exact hq) p l e R s m args below meth c D A tc adK adV C σ0 n0 σ H locs ls cells slots mc ms hH hS hl hB))
theorem z_icmp_lt {x w : Int32} {off : Int} {tgt : Nat} {ra rb : zRes} (dg : decode cc pc = .ok (.if_icmp .lt off, 3)) (ht : (pc : Int) + off = (tgt : Int)) (kt : x < w → zR y cc nL ret d (tgt) (L) (st) n S (μ) (ra)) (kf : ¬ x < w → zR y cc nL ret d (pc + 3) (L) (st) n S (μ) (rb)) : zR y cc nL ret d (pc) (L) (.int w :: .int x :: st) n S (μ) (if x < w then ra else rb) := fun q hq p l e R s m args below meth c D A tc adK adV C σ0 n0 σ H locs ls cells slots mc ms hH hS hl hB => lv_icmp_lt C.1 C.2.1 dg ht (fun h => (kt h q (by rw [if_pos h] at hq; exact hq) p l e R s m args below meth c D A tc adK adV C σ0 n0 σ H locs ls cells slots mc ms hH hS hl hB)) (fun h => (kf h q (by rw [if_neg h] at hq; exact hq) p l e R s m args below meth c D A tc adK adV C σ0 n0 σ H locs ls cells slots mc ms hH hS hl hB))
theorem z_if_ge {x : Int32} {off : Int} {tgt : Nat} {ra rb : zRes} (dg : decode cc pc = .ok (.ifCond .ge off, 3)) (ht : (pc : Int) + off = (tgt : Int)) (kt : 0 ≤ x → zR y cc nL ret d (tgt) (L) (st) n S (μ) (ra)) (kf : ¬ 0 ≤ x → zR y cc nL ret d (pc + 3) (L) (st) n S (μ) (rb)) : zR y cc nL ret d (pc) (L) (.int x :: st) n S (μ) (if 0 ≤ x then ra else rb) := fun q hq p l e R s m args below meth c D A tc adK adV C σ0 n0 σ H locs ls cells slots mc ms hH hS hl hB => lv_if_ge C.1 C.2.1 dg ht (fun h => (kt h q (by rw [if_pos h] at hq; exact hq) p l e R s m args below meth c D A tc adK adV C σ0 n0 σ H locs ls cells slots mc ms hH hS hl hB)) (fun h => (kf h q (by rw [if_neg h] at hq; exact hq) p l e R s m args below meth c D A tc adK adV C σ0 n0 σ H locs ls cells slots mc ms hH hS hl hB))
theorem z_icmp_ge {x w : Int32} {off : Int} {tgt : Nat} {ra rb : zRes} (dg : decode cc pc = .ok (.if_icmp .ge off, 3)) (ht : (pc : Int) + off = (tgt : Int)) (kt : w ≤ x → zR y cc nL ret d (tgt) (L) (st) n S (μ) (ra)) (kf : ¬ w ≤ x → zR y cc nL ret d (pc + 3) (L) (st) n S (μ) (rb)) : zR y cc nL ret d (pc) (L) (.int w :: .int x :: st) n S (μ) (if w ≤ x then ra else rb) := fun q hq p l e R s m args below meth c D A tc adK adV C σ0 n0 σ H locs ls cells slots mc ms hH hS hl hB => lv_icmp_ge C.1 C.2.1 dg ht (fun h => (kt h q (by rw [if_pos h] at hq; exact hq) p l e R s m args below meth c D A tc adK adV C σ0 n0 σ H locs ls cells slots mc ms hH hS hl hB)) (fun h => (kf h q (by rw [if_neg h] at hq; exact hq) p l e R s m args below meth c D A tc adK adV C σ0 n0 σ H locs ls cells slots mc ms hH hS hl hB))
theorem z_if_gt {x : Int32} {off : Int} {tgt : Nat} {ra rb : zRes} (dg : decode cc pc = .ok (.ifCond .gt off, 3)) (ht : (pc : Int) + off = (tgt : Int)) (kt : 0 < x → zR y cc nL ret d (tgt) (L) (st) n S (μ) (ra)) (kf : ¬ 0 < x → zR y cc nL ret d (pc + 3) (L) (st) n S (μ) (rb)) : zR y cc nL ret d (pc) (L) (.int x :: st) n S (μ) (if 0 < x then ra else rb) := fun q hq p l e R s m args below meth c D A tc adK adV C σ0 n0 σ H locs ls cells slots mc ms hH hS hl hB => lv_if_gt C.1 C.2.1 dg ht (fun h => (kt h q (by rw [if_pos h] at hq; exact hq) p l e R s m args below meth c D A tc adK adV C σ0 n0 σ H locs ls cells slots mc ms hH hS hl hB)) (fun h => (kf h q (by rw [if_neg h] at hq; exact hq) p l e R s m args below meth c D A tc adK adV C σ0 n0 σ H locs ls cells slots mc ms hH hS hl hB))
theorem z_icmp_gt {x w : Int32} {off : Int} {tgt : Nat} {ra rb : zRes} (dg : decode cc pc = .ok (.if_icmp .gt off, 3)) (ht : (pc : Int) + off = (tgt : Int)) (kt : w < x → zR y cc nL ret d (tgt) (L) (st) n S (μ) (ra)) (kf : ¬ w < x → zR y cc nL ret d (pc + 3) (L) (st) n S (μ) (rb)) : zR y cc nL ret d (pc) (L) (.int w :: .int x :: st) n S (μ) (if w < x then ra else rb) := fun q hq p l e R s m args below meth c D A tc adK adV C σ0 n0 σ H locs ls cells slots mc ms hH hS hl hB => lv_icmp_gt C.1 C.2.1 dg ht (fun h => (kt h q (by rw [if_pos h] at hq; exact hq) p l e R s m args below meth c D A tc adK adV C σ0 n0 σ H locs ls cells slots mc ms hH hS hl hB)) (fun h => (kf h q (by rw [if_neg h] at hq; exact hq) p l e R s m args below meth c D A tc adK adV C σ0 n0 σ H locs ls cells slots mc ms hH hS hl hB))
theorem z_if_le {x : Int32} {off : Int} {tgt : Nat} {ra rb : zRes} (dg : decode cc pc = .ok (.ifCond .le off, 3)) (ht : (pc : Int) + off = (tgt : Int)) (kt : x ≤ 0 → zR y cc nL ret d (tgt) (L) (st) n S (μ) (ra)) (kf : ¬ x ≤ 0 → zR y cc nL ret d (pc + 3) (L) (st) n S (μ) (rb)) : zR y cc nL ret d (pc) (L) (.int x :: st) n S (μ) (if x ≤ 0 then ra else rb) := fun q hq p l e R s m args below meth c D A tc adK adV C σ0 n0 σ H locs ls cells slots mc ms hH hS hl hB => lv_if_le C.1 C.2.1 dg ht (fun h => (kt h q (by rw [if_pos h] at hq; exact hq) p l e R s m args below meth c D A tc adK adV C σ0 n0 σ H locs ls cells slots mc ms hH hS hl hB)) (fun h => (kf h q (by rw [if_neg h] at hq; exact hq) p l e R s m args below meth c D A tc adK adV C σ0 n0 σ H locs ls cells slots mc ms hH hS hl hB))
theorem z_icmp_le {x w : Int32} {off : Int} {tgt : Nat} {ra rb : zRes} (dg : decode cc pc = .ok (.if_icmp .le off, 3)) (ht : (pc : Int) + off = (tgt : Int)) (kt : x ≤ w → zR y cc nL ret d (tgt) (L) (st) n S (μ) (ra)) (kf : ¬ x ≤ w → zR y cc nL ret d (pc + 3) (L) (st) n S (μ) (rb)) : zR y cc nL ret d (pc) (L) (.int w :: .int x :: st) n S (μ) (if x ≤ w then ra else rb) := fun q hq p l e R s m args below meth c D A tc adK adV C σ0 n0 σ H locs ls cells slots mc ms hH hS hl hB => lv_icmp_le C.1 C.2.1 dg ht (fun h => (kt h q (by rw [if_pos h] at hq; exact hq) p l e R s m args below meth c D A tc adK adV C σ0 n0 σ H locs ls cells slots mc ms hH hS hl hB)) (fun h => (kf h q (by rw [if_neg h] at hq; exact hq) p l e R s m args below meth c D A tc adK adV C σ0 n0 σ H locs ls cells slots mc ms hH hS hl hB))
theorem z_if_ne {x : Int32} {off : Int} {tgt : Nat} {ra rb : zRes} (dg : decode cc pc = .ok (.ifCond .ne off, 3)) (ht : (pc : Int) + off = (tgt : Int)) (kt : ¬ x = 0 → zR y cc nL ret d (tgt) (L) (st) n S (μ) (ra)) (kf : x = 0 → zR y cc nL ret d (pc + 3) (L) (st) n S (μ) (rb)) : zR y cc nL ret d (pc) (L) (.int x :: st) n S (μ) (if x = 0 then rb else ra) := fun q hq p l e R s m args below meth c D A tc adK adV C σ0 n0 σ H locs ls cells slots mc ms hH hS hl hB => lv_if_ne C.1 C.2.1 dg ht (fun h => (kt h q (by rw [if_neg h] at hq; exact hq) p l e R s m args below meth c D A tc adK adV C σ0 n0 σ H locs ls cells slots mc ms hH hS hl hB)) (fun h => (kf h q (by rw [if_pos h] at hq; exact hq) p l e R s m args below meth c D A tc adK adV C σ0 n0 σ H locs ls cells slots mc ms hH hS hl hB))
theorem z_icmp_ne {x w : Int32} {off : Int} {tgt : Nat} {ra rb : zRes} (dg : decode cc pc = .ok (.if_icmp .ne off, 3)) (ht : (pc : Int) + off = (tgt : Int)) (kt : ¬ x = w → zR y cc nL ret d (tgt) (L) (st) n S (μ) (ra)) (kf : x = w → zR y cc nL ret d (pc + 3) (L) (st) n S (μ) (rb)) : zR y cc nL ret d (pc) (L) (.int w :: .int x :: st) n S (μ) (if x = w then rb else ra) := fun q hq p l e R s m args below meth c D A tc adK adV C σ0 n0 σ H locs ls cells slots mc ms hH hS hl hB => lv_icmp_ne C.1 C.2.1 dg ht (fun h => (kt h q (by rw [if_neg h] at hq; exact hq) p l e R s m args below meth c D A tc adK adV C σ0 n0 σ H locs ls cells slots mc ms hH hS hl hB)) (fun h => (kf h q (by rw [if_pos h] at hq; exact hq) p l e R s m args below meth c D A tc adK adV C σ0 n0 σ H locs ls cells slots mc ms hH hS hl hB))
theorem z_tabC {x : Int32} {dflt lo hi : Int} {offs : Array Int} {len : Nat} {off : Int} {tgt : Nat} {ra rb : zRes} (v : Int32) (dg : decode cc pc = .ok (.tableswitch dflt lo hi offs, len)) (h1 : ¬ v.toInt < lo) (h2 : ¬ hi < v.toInt) (ho : offs[(v.toInt - lo).toNat]? = some off) (ht : (pc : Int) + off = (tgt : Int)) (kt : zR y cc nL ret d (tgt) (L) (st) n S (μ) (ra)) (kf : ¬ x = v → zR y cc nL ret d (pc) (L) (.int x :: st) n S (μ) (rb)) : zR y cc nL ret d (pc) (L) (.int x :: st) n S (μ) (if x = v then ra else rb) := by
  intro q hq p l e R s m args below meth c D A tc adK adV C σ0 n0 σ H locs ls cells slots mc ms hH hS hl hB
  by_cases h : x = v
  · rw [if_pos h] at hq
    subst h
    exact lv_tableIn C.1 C.2.1 dg h1 h2 ho ht (kt q hq p l e R s m args below meth c D A tc adK adV C σ0 n0 σ H locs ls cells slots mc ms hH hS hl hB)
  · rw [if_neg h] at hq
    exact (kf h q hq p l e R s m args below meth c D A tc adK adV C σ0 n0 σ H locs ls cells slots mc ms hH hS hl hB)
theorem z_tabD {x : Int32} {dflt lo hi : Int} {offs : Array Int} {len : Nat} {tgt : Nat} (dg : decode cc pc = .ok (.tableswitch dflt lo hi offs, len)) (h : x.toInt < lo ∨ hi < x.toInt) (ht : (pc : Int) + dflt = (tgt : Int)) (k : zR y cc nL ret d (tgt) (L) (st) n S (μ) (r)) : zR y cc nL ret d (pc) (L) (.int x :: st) n S (μ) (r) := fun q hq p l e R s m args below meth c D A tc adK adV C σ0 n0 σ H locs ls cells slots mc ms hH hS hl hB => lv_tableOut C.1 C.2.1 dg h ht (k q hq p l e R s m args below meth c D A tc adK adV C σ0 n0 σ H locs ls cells slots mc ms hH hS hl hB)
theorem z_i32 {x k : Int32} (h : ¬ x = k) {z : Int} (hz : k.toInt = z) : x.toInt ≠ z := fun e => h (Int32.toInt_inj.mp (e.trans hz.symm))
/-- what getfield and putfield of an entry link: the class, its slot -/
def zFd (own : String) (idx ci j : Nat) : Prop := ∃ (C : String) (T : u_T) (N : Nat), zCl[ci]? = some (C, T, N) ∧ N = zNf ci ∧ j < N ∧ (∀ w ∈ u_ws C T N, w ∈ zTb) ∧ (T j).1 = C ∧ (Cond.fieldLink own idx C (T j).2.1 (T j).2.2.1 ∈ zTb ∨ ∃ host, Cond.fieldLinkNest own idx C (T j).2.1 (T j).2.2.1 host ∈ zNs) ∧ (∀ a, a < N → ∀ b, b < N → a ≠ b → (T a).2.1 ≠ (T b).2.1) ∧ (∀ k, k < N → parseFieldDescriptor (T k).2.2.1 = some (zTy ci k))
theorem z_get {b ci z j idx : Nat} {rf : Nat → Option Nat} {v : Value} (hf : zFd y.cls idx ci j) (hb : b < n) (hs : S b = (0, ci, z, rf)) (hv : ∀ σ, zFld σ ci rf (μ b) j = cv σ v) (dg : decode cc pc = .ok (.getfield idx, 3)) (k : zR y cc nL ret d (pc + 3) (L) (v :: st) n S (μ) (r)) : zR y cc nL ret d (pc) (L) (.ref b :: st) n S (μ) (r) := by
  intro q hq p l e R s m args below meth c D A tc adK adV C σ0 n0 σ H locs ls cells slots mc ms hH hS hl hB
  obtain ⟨CC, T, N, h1, h2, h3, h4, h5, h6, -⟩ := hf
  obtain ⟨hx, hbb, -, hown, -, -, -, -, hts, hK, -, hG, -⟩ := id C
  have he := zW_get' (σ := σ) (tc := tc) (μ := μ) hb hs
  rw [zE_obj] at he
  have hvv : (zFs σ ci rf (μ b))[j]? = some (cv σ v) := by
    unfold zFs
    rw [List.getElem?_map, List.getElem?_range (by omega), Option.map_some, hv]
  rcases h6 with h6 | ⟨host, h6⟩
  · exact va_get hx hbb hts h4 hown hK hH.2.2.1 b he h1 j h3 (hts _ h6) (fun x hx => by rw [h5] at hx; exact hx) hvv dg (k q hq p l e R s m args below meth c D A tc adK adV C σ0 n0 σ H locs ls cells slots mc ms hH hS hl hB)
  · exact va_getN hx hbb hts h4 hown hK hH.2.2.1 b he h1 j h3 (va_Nw.use rfl (hG.2.2.2.2.1 _ h6)) (fun x hx => by rw [h5] at hx; exact hx) hvv dg (k q hq p l e R s m args below meth c D A tc adK adV C σ0 n0 σ H locs ls cells slots mc ms hH hS hl hB)
theorem z_geti {b ci z j idx : Nat} {rf : Nat → Option Nat} (hf : zFd y.cls idx ci j) (hb : b < n) (hs : S b = (0, ci, z, rf)) (hi : zInt ci j = true) (dg : decode cc pc = .ok (.getfield idx, 3)) (k : zR y cc nL ret d (pc + 3) (L) (.int (μ b j) :: st) n S (μ) (r)) : zR y cc nL ret d (pc) (L) (.ref b :: st) n S (μ) (r) := z_get hf hb hs (fun σ => by unfold zFld; rw [if_pos hi]; rfl) dg k
theorem z_getr {b ci z j idx x : Nat} {rf : Nat → Option Nat} (hf : zFd y.cls idx ci j) (hb : b < n) (hs : S b = (0, ci, z, rf)) (hi : zInt ci j = false) (hr : rf j = some x) (dg : decode cc pc = .ok (.getfield idx, 3)) (k : zR y cc nL ret d (pc + 3) (L) (.ref x :: st) n S (μ) (r)) : zR y cc nL ret d (pc) (L) (.ref b :: st) n S (μ) (r) := z_get hf hb hs (fun σ => by unfold zFld; rw [if_neg (by rw [hi]; exact Bool.false_ne_true), hr]; rfl) dg k
theorem z_puti {b ci z j idx : Nat} {rf : Nat → Option Nat} {v : Int32} (hf : zFd y.cls idx ci j) (hb : b < n) (hs : S b = (0, ci, z, rf)) (hi : zTy ci j = .int) (hw : (zCl[ci]?).map (fun q => (q.2.1 j).2.2.2) = some false) (dg : decode cc pc = .ok (.putfield idx, 3)) (k : zR y cc nL ret d (pc + 3) (L) (st) n S (zset μ b j v) (r)) : zR y cc nL ret d (pc) (L) (.int v :: .ref b :: st) n S (μ) (r) := by
  intro q hq p l e R s m args below meth c D A tc adK adV C σ0 n0 σ H locs ls cells slots mc ms hH hS hl hB
  obtain ⟨CC, T, N, h1, h2, h3, h4, h5, h6, h7, h8⟩ := hf
  obtain ⟨hx, hbb, -, hown, -, -, -, -, hts, hK, -, hG, -⟩ := id C
  have he := zW_get' (σ := σ) (tc := tc) (μ := μ) hb hs
  rw [zE_obj] at he
  have hfin : (T j).2.2.2 = false := by rw [h1] at hw; exact Option.some.inj hw
  have hlen : j < (zFs σ ci rf (μ b)).length := by unfold zFs; rw [List.length_map, List.length_range]; omega
  have hset : (zFs σ ci rf (μ b)).set j (.int v) = zFs σ ci rf (fun i => if i = j then v else μ b i) := by
    apply List.ext_getElem?
    intro i
    unfold zFs
    by_cases hi9 : i < zNf ci
    · rw [List.getElem?_map, List.getElem?_range hi9]
      by_cases hij : i = j
      · subst hij
        rw [List.getElem?_set_self (by rw [List.length_map, List.length_range]; exact hi9)]
        simp [zFld, zInt, hi, zIsI]
      · rw [List.getElem?_set_ne (fun q => hij q.symm), List.getElem?_map, List.getElem?_range hi9]
        simp [zFld, hij]
    · rw [List.getElem?_eq_none (by rw [List.length_set, List.length_map, List.length_range]; omega), List.getElem?_eq_none (by rw [List.length_map, List.length_range]; omega)]
  have hw9 : (zW σ tc n S μ).set b (σ b, .inr (ci, (zFs σ ci rf (μ b)).set j (.int v))) = zW σ tc n S (zset μ b j v) := by
    rw [hset]
    exact zW_set (by rw [hs]; rfl)
  have hp : parseFieldDescriptor (T j).2.2.1 = some .int := by rw [h8 j h3, hi]
  rcases h6 with h6 | ⟨host, h6⟩
  · refine va_put (v := Value.int v) hx hbb hts h4 (zTy ci) h8 h7 hown hK hH.2.2.1 hH.2.2.2.1 hS b he h1 j h3 (hts _ h6) (fun x hx => by rw [h5] at hx; exact hx) hfin hp rfl rfl hlen dg (fun H1 locs1 hP1 hD1 hS1 => ?_)
    rw [hw9] at hP1 hD1
    exact (k q hq p l e R s m args below meth c D A tc adK adV C σ0 n0 σ H1 locs1 ls cells slots mc ms ⟨hH.1, hH.2.1, hP1, hD1, hH.2.2.2.2⟩ hS1 hl hB)
  · refine va_putN (v := Value.int v) hx hbb hts h4 (zTy ci) h8 h7 hown hK hH.2.2.1 hH.2.2.2.1 hS b he h1 j h3 (va_Nw.use rfl (hG.2.2.2.2.1 _ h6)) (fun x hx => by rw [h5] at hx; exact hx) hfin hp rfl rfl hlen dg (fun H1 locs1 hP1 hD1 hS1 => ?_)
    rw [hw9] at hP1 hD1
    exact (k q hq p l e R s m args below meth c D A tc adK adV C σ0 n0 σ H1 locs1 ls cells slots mc ms ⟨hH.1, hH.2.1, hP1, hD1, hH.2.2.2.2⟩ hS1 hl hB)
theorem zin_in {i : Int32} {N : Nat} {A : zRes} {q : Nat × Int32 × zMem} (h : zin i N A = some q) : vp_in i N ∧ A = some q := by
  unfold zin at h
  by_cases hi : i < 0 ∨ N ≤ i.toNatClampNeg
  · rw [if_pos hi] at h; cases h
  · rw [if_neg hi] at h; exact ⟨hi, h⟩
theorem z_iald {a z t : Nat} {i : Int32} {rf : Nat → Option Nat} (ha : a < n) (hs : S a = (1, t, z, rf)) (ht : t = 0) (dg : decode cc pc = .ok (.iaload, 1)) (k : vp_in i z → zR y cc nL ret d (pc + 1) (L) (.int (μ a i.toNatClampNeg) :: st) n S (μ) (r)) : zR y cc nL ret d (pc) (L) (.int i :: .ref a :: st) n S (μ) (zin i z r) := by
  intro q hq p l e R s m args below meth c D A tc adK adV C σ0 n0 σ H locs ls cells slots mc ms hH hS hl hB
  subst ht
  obtain ⟨hi, hq⟩ := zin_in hq
  have he := zW_get' (σ := σ) (tc := tc) (μ := μ) ha hs
  rw [zE_arr] at he
  exact va_iald C.1 C.2.1 C.2.2.2.2.2.2.2.2.2.1 hH.2.2.1 a 0 he rfl hi dg (k hi q hq p l e R s m args below meth c D A tc adK adV C σ0 n0 σ H locs ls cells slots mc ms hH hS hl hB)
theorem z_zald {a z t : Nat} {i : Int32} {rf : Nat → Option Nat} (ha : a < n) (hs : S a = (1, t, z, rf)) (ht : t = 1) (dg : decode cc pc = .ok (.baload, 1)) (k : vp_in i z → zR y cc nL ret d (pc + 1) (L) (.int (μ a i.toNatClampNeg) :: st) n S (μ) (r)) : zR y cc nL ret d (pc) (L) (.int i :: .ref a :: st) n S (μ) (zin i z r) := by
  intro q hq p l e R s m args below meth c D A tc adK adV C σ0 n0 σ H locs ls cells slots mc ms hH hS hl hB
  subst ht
  obtain ⟨hi, hq⟩ := zin_in hq
  have he := zW_get' (σ := σ) (tc := tc) (μ := μ) ha hs
  rw [zE_arr] at he
  exact va_zald C.1 C.2.1 C.2.2.2.2.2.2.2.2.2.1 hH.2.2.1 a 1 he rfl hi dg (k hi q hq p l e R s m args below meth c D A tc adK adV C σ0 n0 σ H locs ls cells slots mc ms hH hS hl hB)
theorem z_iast {a z t : Nat} {i x : Int32} {rf : Nat → Option Nat} (ha : a < n) (hs : S a = (1, t, z, rf)) (ht : t = 0) (dg : decode cc pc = .ok (.iastore, 1)) (k : vp_in i z → zR y cc nL ret d (pc + 1) (L) (st) n S (zset μ a i.toNatClampNeg x) (r)) : zR y cc nL ret d (pc) (L) (.int x :: .int i :: .ref a :: st) n S (μ) (zin i z r) := by
  intro q hq p l e R s m args below meth c D A tc adK adV C σ0 n0 σ H locs ls cells slots mc ms hH hS hl hB
  subst ht
  obtain ⟨hi, hq⟩ := zin_in hq
  have he := zW_get' (σ := σ) (tc := tc) (μ := μ) ha hs
  rw [zE_arr] at he
  refine va_iast C.1 C.2.1 C.2.2.2.2.2.2.2.2.2.1 hH.2.2.1 hH.2.2.2.1 hS a 0 he rfl hi dg (fun H1 locs1 hP1 hD1 hS1 => ?_)
  have hw9 : (zW σ tc n S μ).set a (σ a, .inl (tc 0, z, .inl (upd (μ a) i.toNatClampNeg x))) = zW σ tc n S (zset μ a i.toNatClampNeg x) := zW_set (by rw [hs]; rfl)
  rw [hw9] at hP1 hD1
  exact (k hi q hq p l e R s m args below meth c D A tc adK adV C σ0 n0 σ H1 locs1 ls cells slots mc ms ⟨hH.1, hH.2.1, hP1, hD1, hH.2.2.2.2⟩ hS1 hl hB)
theorem z_zast {a z t : Nat} {i x : Int32} {rf : Nat → Option Nat} (ha : a < n) (hs : S a = (1, t, z, rf)) (ht : t = 1) (hx : x = 0 ∨ x = 1) (dg : decode cc pc = .ok (.bastore, 1)) (k : vp_in i z → zR y cc nL ret d (pc + 1) (L) (st) n S (zset μ a i.toNatClampNeg x) (r)) : zR y cc nL ret d (pc) (L) (.int x :: .int i :: .ref a :: st) n S (μ) (zin i z r) := by
  intro q hq p l e R s m args below meth c D A tc adK adV C σ0 n0 σ H locs ls cells slots mc ms hH hS hl hB
  subst ht
  obtain ⟨hi, hq⟩ := zin_in hq
  have he := zW_get' (σ := σ) (tc := tc) (μ := μ) ha hs
  rw [zE_arr] at he
  refine va_zast C.1 C.2.1 C.2.2.2.2.2.2.2.2.2.1 hH.2.2.1 hH.2.2.2.1 hS a 1 he rfl hi dg (fun H1 locs1 hP1 hD1 hS1 => ?_)
  have hx9 : vp_nar .boolean x = x := by rcases hx with rfl | rfl <;> decide
  rw [hx9] at hP1 hD1
  have hw9 : (zW σ tc n S μ).set a (σ a, .inl (tc 1, z, .inl (upd (μ a) i.toNatClampNeg x))) = zW σ tc n S (zset μ a i.toNatClampNeg x) := zW_set (by rw [hs]; rfl)
  rw [hw9] at hP1 hD1
  exact (k hi q hq p l e R s m args below meth c D A tc adK adV C σ0 n0 σ H1 locs1 ls cells slots mc ms ⟨hH.1, hH.2.1, hP1, hD1, hH.2.2.2.2⟩ hS1 hl hB)
theorem z_alen {a z t : Nat} {rf : Nat → Option Nat} (ha : a < n) (hs : S a = (1, t, z, rf)) (ht : t = 0) {v : Int32} (hv : Int32.ofNat z = v) (dg : decode cc pc = .ok (.arraylength, 1)) (k : zR y cc nL ret d (pc + 1) (L) (.int v :: st) n S (μ) (r)) : zR y cc nL ret d (pc) (L) (.ref a :: st) n S (μ) (r) := by
  intro q hq p l e R s m args below meth c D A tc adK adV C σ0 n0 σ H locs ls cells slots mc ms hH hS hl hB
  subst ht
  have he := zW_get' (σ := σ) (tc := tc) (μ := μ) ha hs
  rw [zE_arr] at he
  exact va_alen C.1 C.2.1 C.2.2.2.2.2.2.2.2.2.1 hH.2.2.1 a 0 he rfl hv dg (k q hq p l e R s m args below meth c D A tc adK adV C σ0 n0 σ H locs ls cells slots mc ms hH hS hl hB)
/-- an element of an array of references; its references are g 0, g 1, .. -/
theorem z_aald {a z t : Nat} {i : Int32} {rf : Nat → Option Nat} (g : Nat → Nat) (ha : a < n) (hs : S a = (2, t, z, rf)) (ht : t = 2 ∨ t = 3 ∨ t = 4) (hg : ∀ j, j < z → rf j = some (g j)) (dg : decode cc pc = .ok (.aaload, 1)) (k : vp_in i z → zR y cc nL ret d (pc + 1) (L) (.ref (g i.toNatClampNeg) :: st) n S (μ) (r)) : zR y cc nL ret d (pc) (L) (.int i :: .ref a :: st) n S (μ) (zin i z r) := by
  intro q hq p l e R s m args below meth c D A tc adK adV C σ0 n0 σ H locs ls cells slots mc ms hH hS hl hB
  obtain ⟨hi, hq⟩ := zin_in hq
  have hlt : i.toNatClampNeg < z := Nat.not_le.mp fun q => hi (Or.inr q)
  have he := zW_get' (σ := σ) (tc := tc) (μ := μ) ha hs
  rw [zE_ref] at he
  have kk := (k hi q hq p l e R s m args below meth c D A tc adK adV C σ0 n0 σ H locs ls cells slots mc ms hH hS hl hB)
  have hvv : ((rf i.toNatClampNeg).map σ) = some (σ (g i.toNatClampNeg)) := by rw [hg _ hlt]; rfl
  have hT : ∃ ty : FieldType, (zTys tc)[t]? = some (tc t, ty) ∧ ((∃ u, ty = .array u) ∨ ∃ u, ty = .object u) := by
    rcases ht with rfl | rfl | rfl
    · exact ⟨_, rfl, Or.inl ⟨_, rfl⟩⟩
    · exact ⟨_, rfl, Or.inl ⟨_, rfl⟩⟩
    · exact ⟨_, rfl, Or.inr ⟨_, rfl⟩⟩
  obtain ⟨ty, ht9, hty⟩ := hT
  have hrd : (arrV (tc t) z (fun j => va_rf ((rf j).map σ))).slots[i.toNatClampNeg]? = some (.ref (σ (g i.toNatClampNeg))) := by rw [arrV_read _ _ hlt, hvv]; rfl
  rcases hty with ⟨u, rfl⟩ | ⟨u, rfl⟩
  · exact W.aald (v := .ref (σ (g i.toNatClampNeg))) (ty := .array u) C.1 C.2.1 (hH.2.2.1 a _ he) ((C.2.2.2.2.2.2.2.2.2.1.2 t _ ht9).1 z (fun j => va_rf ((rf j).map σ))) rfl (fun q => by cases q) (by show ¬ (i < 0 ∨ (arrV _ _ _).slots.size ≤ _); rw [arrV_size]; exact hi) hrd rfl rfl dg kk
  · exact W.aald (v := .ref (σ (g i.toNatClampNeg))) (ty := .object u) C.1 C.2.1 (hH.2.2.1 a _ he) ((C.2.2.2.2.2.2.2.2.2.1.2 t _ ht9).1 z (fun j => va_rf ((rf j).map σ))) rfl (fun q => by cases q) (by show ¬ (i < 0 ∨ (arrV _ _ _).slots.size ≤ _); rw [arrV_size]; exact hi) hrd rfl rfl dg kk
theorem z_iret {v : Int32} (hr : ret = some .int) (dg : decode cc pc = .ok (.ireturn, 1)) : zR y cc nL ret d (pc) (L) ([.int v]) n S (μ) (some (0, v, μ)) := by
  intro q hq p l e R s m args below meth c D A tc adK adV C σ0 n0 σ H locs ls cells slots mc ms hH hS hl hB
  cases hq
  obtain ⟨hx, hbb, -, -, hrt, hlk, -, -, -, -, -, -, -⟩ := id C
  refine vx_ret (W.widen (k := mc) (n := ms) (by have := hB.1; omega) (by have := hB.2.1; omega) ?_)
  refine W.iret hx hbb (by rw [hrt, hr]) (fun t ht hW => ⟨⟨σ, some (.int v), by subst hr; rfl, rfl, hH.2.1, by rw [ht]; exact hH.2.2.1, hH.2.2.2⟩, hS.F ht⟩) (fun z hz => hS.2.2 z hz) dg hlk
theorem z_zret {v : Int32} (hr : ret = some .boolean) (dg : decode cc pc = .ok (.ireturn, 1)) : zR y cc nL ret d (pc) (L) ([.int v]) n S (μ) (zbl v (some (0, v, μ))) := by
  intro q hq p l e R s m args below meth c D A tc adK adV C σ0 n0 σ H locs ls cells slots mc ms hH hS hl hB
  unfold zbl at hq
  by_cases hv : v = 0 ∨ v = 1
  · rw [if_pos hv] at hq
    cases hq
    obtain ⟨hx, hbb, -, -, hrt, hlk, -, -, -, -, -, -, -⟩ := id C
    refine vx_ret (W.widen (k := mc) (n := ms) (by have := hB.1; omega) (by have := hB.2.1; omega) ?_)
    refine W.zret hx hbb (by rw [hrt, hr]) (by rcases hv with rfl | rfl <;> rfl) (fun t ht hW => ⟨⟨σ, some (.int v), by subst hr; rfl, rfl, hH.2.1, by rw [ht]; exact hH.2.2.1, hH.2.2.2⟩, hS.F ht⟩) (fun z hz => hS.2.2 z hz) dg hlk
  · rw [if_neg hv] at hq
    cases hq
theorem z_zretc {v : Int32} (hr : ret = some .boolean) (hv : v = 0 ∨ v = 1) (dg : decode cc pc = .ok (.ireturn, 1)) : zR y cc nL ret d (pc) (L) ([.int v]) n S (μ) (some (0, v, μ)) := by
  have h := z_zret (y := y) (nL := nL) (d := d) (L := L) (n := n) (S := S) (μ := μ) (v := v) hr dg
  unfold zbl at h
  rw [if_pos hv] at h
  exact h
theorem z_vret (hr : ret = none) (dg : decode cc pc = .ok (.return_, 1)) : zR y cc nL ret d (pc) (L) ([]) n S (μ) (some (0, 0, μ)) := by
  intro q hq p l e R s m args below meth c D A tc adK adV C σ0 n0 σ H locs ls cells slots mc ms hH hS hl hB
  cases hq
  obtain ⟨hx, hbb, -, -, hrt, hlk, -, -, -, -, -, -, -⟩ := id C
  refine vx_ret (W.widen (k := mc) (n := ms) (by have := hB.1; omega) (by have := hB.2.1; omega) ?_)
  refine W.vret hx hbb (by rw [hrt, hr]) (fun t ht hW => ⟨⟨σ, none, by subst hr; rfl, rfl, hH.2.1, by rw [ht]; exact hH.2.2.1, hH.2.2.2⟩, hS.F ht⟩) (fun z hz => hS.2.2 z hz) dg hlk
theorem z_locals {L' : List Value} (hs : ∀ (i : Nat) (v : Value), L'[i]? = some v → v ≠ .null → L[i]? = some v) (k : zR y cc nL ret d (pc) (L') (st) n S (μ) (r)) : zR y cc nL ret d (pc) (L) (st) n S (μ) (r) := fun q hq p l e R s m args below meth c D A tc adK adV C σ0 n0 σ H locs ls cells slots mc ms hH hS hl hB => (k q hq p l e R s m args below meth c D A tc adK adV C σ0 n0 σ H locs ls cells slots mc ms hH hS (zL_sub hl hs) hB)
end ZR
