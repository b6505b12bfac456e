/-! THE LAYOUTS: which key is which cell (by program, out of the constructors) -/
def zF : Nat := 1000000
def zn : Nat → Option Nat := fun _ => none
/-- the references of a matrix: base, base + 1, .. -/
def zrw (N base : Nat) : Nat → Option Nat := fun j => if j < N then some (base + j) else none
def zlet {α : Type} (k : α) (b : α → zRes) : zRes := b k
section ZL
variable {y : MethodName} {cc : ByteArray} {nL : Nat} {ret : Option FieldType} {d pc : Nat} {L st : List Value} {n : Nat} {S : Nat → zSh} {μ : zMem} {r : zRes}
theorem z_let {α : Type} {k : α} {b : α → zRes} (P : α → Prop) (hk : P k) (hb : ∀ j, P j → zR y cc nL ret d pc L st n S μ (b j)) : zR y cc nL ret d pc L st n S μ (zlet k b) := hb k hk
theorem z_mem {M : zMem} {b : zMem → zRes} (k : ∀ μ', zR y cc nL ret d pc L st n S μ' (b μ')) : zR y cc nL ret d pc L st n S M (zlet M b) := k M
theorem z_val {e : Int32} {b : Int32 → zRes} (k : ∀ v, zR y cc nL ret d pc L (.int v :: st) n S μ (b v)) : zR y cc nL ret d pc L (.int e :: st) n S μ (zlet e b) := k e
theorem z_none : zR y cc nL ret d pc L st n S μ none := fun q hq => nomatch hq
theorem z_ifnonnull {x : Nat} {off : Int} {tgt : Nat} (dg : decode cc pc = .ok (.ifnonnull off, 3)) (ht : (pc : Int) + off = (tgt : Int)) (k : zR y cc nL ret d tgt L st n S μ r) : zR y cc nL ret d pc L (.ref x :: st) n S μ r := fun q hq p l e R s m args below meth c D A tc adK adV C σ0 n0 σ H locs ls cells slots mc ms hH hS hl hB => lv_ifnonnull C.1 C.2.1 dg ht (k q hq p l e R s m args below meth c D A tc adK adV C σ0 n0 σ H locs ls cells slots mc ms hH hS hl hB)
theorem z_bl {x : Int32} (k : (x = 0 ∨ x = 1) → zR y cc nL ret d pc L st n S μ r) : zR y cc nL ret d pc L st n S μ (zbl x r) := by
  intro q hq
  unfold zbl at hq
  by_cases h : x = 0 ∨ x = 1
  · rw [if_pos h] at hq; exact k h q hq
  · rw [if_neg h] at hq; cases hq
def zle : List Value → List Value → Prop
  | [], _ => True
  | a :: l, b :: m => (a = .null ∨ a = b) ∧ zle l m
  | _ :: _, [] => False
theorem zle_at : ∀ (l m : List Value), zle l m → ∀ (i : Nat) (v : Value), l[i]? = some v → v ≠ .null → m[i]? = some v
  | [], _, _, i, v, h, _ => by simp at h
  | a :: l, b :: m, h, 0, v, hv, hn => by
    have hv : some a = some v := hv
    cases hv
    rcases h.1 with e | e
    · exact absurd e hn
    · rw [e]; rfl
  | a :: l, b :: m, h, i + 1, v, hv, hn => zle_at l m h.2 i v hv hn
  | _ :: _, [], h, _, _, _, _ => h.elim
theorem z_loc {L' : List Value} (h : zle L' L) (k : zR y cc nL ret d pc L' st n S μ r) : zR y cc nL ret d pc L st n S μ r := z_locals (zle_at _ _ h) k
theorem z_lkC {x : Int32} {dflt : Int} {ps : Array (Int × Int)} {len : Nat} {off : Int} {tgt : Nat} {ra rb : zRes} (v : Int32) (dg : decode cc pc = .ok (.lookupswitch dflt ps, len)) (hp : (ps.toList.zip (ps.toList.drop 1)).all (fun (a, next) => a.1 < next.1) = true) (ho : Op.lookupswitch.offset ps.toList dflt v.toInt = off) (ht : (pc : Int) + off = (tgt : Int)) (kt : zR y cc nL ret d tgt L st n S μ ra) (kf : ¬ x = v → zR y cc nL ret d pc L (.int x :: st) n S μ rb) : zR y cc nL ret d pc L (.int x :: st) n S μ (if x = v then ra else rb) := by
  intro q hq
  by_cases h : x = v
  · rw [if_pos h] at hq
    subst h
    intro p l e R s m args below meth c D A tc adK adV C σ0 n0 σ H locs ls cells slots mc ms hH hS hl hB
    exact lv_lookup C.1 C.2.1 dg hp ho ht (kt q hq p l e R s m args below meth c D A tc adK adV C σ0 n0 σ H locs ls cells slots mc ms hH hS hl hB)
  · rw [if_neg h] at hq
    exact kf h q hq
theorem z_lkD {x : Int32} {dflt : Int} {ps : Array (Int × Int)} {len : Nat} {off : Int} {tgt : Nat} (dg : decode cc pc = .ok (.lookupswitch dflt ps, len)) (hp : (ps.toList.zip (ps.toList.drop 1)).all (fun (a, next) => a.1 < next.1) = true) (ho : Op.lookupswitch.offset ps.toList dflt x.toInt = off) (ht : (pc : Int) + off = (tgt : Int)) (k : zR y cc nL ret d tgt L st n S μ r) : zR y cc nL ret d pc L (.int x :: st) n S μ r := by
  intro q hq p l e R s m args below meth c D A tc adK adV C σ0 n0 σ H locs ls cells slots mc ms hH hS hl hB
  exact lv_lookup C.1 C.2.1 dg hp ho ht (k q hq p l e R s m args below meth c D A tc adK adV C σ0 n0 σ H locs ls cells slots mc ms hH hS hl hB)
end ZL
def nX (g : Bool) : Nat := if g then 76 else 69
theorem nx_lt {g : Bool} {k : Nat} (h : k < 69) : k < nX g := by unfold nX; cases g <;> simp <;> omega
def scR (k : Nat) : Nat → Option Nat := fun j => match j with
  | 0 => some 2
  | 6 => some (k + 1)
  | 7 => some (k + 2)
  | 8 => some (k + 3)
  | 10 => some (k + 4)
  | _ => none
def xR0 (g : Bool) : Nat → Option Nat := fun j => match j with
  | 0 => some 1
  | 3 => some 2
  | 4 => some 12
  | 5 => some 22
  | 6 => some 23
  | 7 => some 28
  | 8 => some 33
  | 10 => some 49
  | 11 => some 54
  | 12 => some 57
  | 13 => some 58
  | 14 => if g then some 69 else none
  | _ => none
def xR2 : Nat → Option Nat := fun j => match j with
  | 6 => some 3
  | 7 => some 4
  | 8 => some 5
  | 9 => some 6
  | 10 => some 7
  | 11 => some 8
  | 12 => some 9
  | 13 => some 10
  | 14 => some 11
  | _ => none
def xR12 : Nat → Option Nat := fun j => match j with
  | 6 => some 13
  | 7 => some 14
  | 8 => some 15
  | 9 => some 16
  | 10 => some 17
  | 11 => some 18
  | 12 => some 19
  | 13 => some 20
  | 14 => some 21
  | _ => none
def xR22 : Nat → Option Nat := fun j => match j with
  | 0 => some 1
  | 1 => some 12
  | _ => none
def xR49 : Nat → Option Nat := fun j => match j with
  | 0 => some 2
  | 1 => some 50
  | 2 => some 51
  | 3 => some 52
  | 4 => some 53
  | _ => none
def xR54 : Nat → Option Nat := fun j => match j with
  | 0 => some 2
  | 1 => some 55
  | 2 => some 56
  | _ => none
def xR57 : Nat → Option Nat := fun j => match j with
  | 0 => some 2
  | 1 => some 28
  | _ => none
def xR58 : Nat → Option Nat := fun j => match j with
  | 0 => some 2
  | 1 => some 59
  | 2 => some 64
  | _ => none
def xR69 : Nat → Option Nat := fun j => match j with
  | 0 => some 2
  | 1 => some 70
  | 2 => some 71
  | 3 => some 72
  | 4 => some 73
  | 5 => some 74
  | 6 => some 75
  | _ => none
def xR33 : Nat → Option Nat := fun j => match j with
  | 0 => some 34
  | 1 => some 39
  | 2 => some 44
  | _ => none
def SXl (g : Bool) : List zSh := [(0, 8, 0, xR0 g), (1, 0, 500, zn), (0, 7, 0, xR2), (1, 0, 7, zn), (1, 0, 36, zn), (1, 0, 9, zn), (1, 0, 9, zn), (1, 0, 9, zn), (1, 0, 10, zn), (1, 0, 10, zn), (1, 0, 10, zn), (1, 0, 10, zn), (0, 7, 0, xR12), (1, 0, 7, zn), (1, 0, 36, zn), (1, 0, 9, zn), (1, 0, 9, zn), (1, 0, 9, zn), (1, 0, 10, zn), (1, 0, 10, zn), (1, 0, 10, zn), (1, 0, 10, zn), (0, 3, 0, xR22), (0, 5, 0, scR 23), (1, 0, 36, zn), (1, 0, 9, zn), (1, 0, 9, zn), (1, 0, 30, zn), (0, 5, 0, scR 28), (1, 0, 36, zn), (1, 0, 9, zn), (1, 0, 9, zn), (1, 0, 30, zn), (2, 4, 3, xR33), (0, 5, 0, scR 34), (1, 0, 36, zn), (1, 0, 9, zn), (1, 0, 9, zn), (1, 0, 30, zn), (0, 5, 0, scR 39), (1, 0, 36, zn), (1, 0, 9, zn), (1, 0, 9, zn), (1, 0, 30, zn), (0, 5, 0, scR 44), (1, 0, 36, zn), (1, 0, 9, zn), (1, 0, 9, zn), (1, 0, 30, zn), (0, 2, 0, xR49), (1, 0, 360, zn), (1, 0, 10, zn), (1, 0, 512, zn), (1, 0, 10, zn), (0, 0, 0, xR54), (1, 0, 8, zn), (1, 0, 256, zn), (0, 4, 0, xR57), (0, 6, 0, xR58), (0, 5, 0, scR 59), (1, 0, 36, zn), (1, 0, 9, zn), (1, 0, 9, zn), (1, 0, 30, zn), (0, 5, 0, scR 64), (1, 0, 36, zn), (1, 0, 9, zn), (1, 0, 9, zn), (1, 0, 30, zn), (0, 1, 0, xR69), (1, 0, 4, zn), (1, 0, 4, zn), (1, 0, 4, zn), (1, 0, 6561, zn), (1, 0, 6561, zn), (1, 0, 6561, zn)]
def SX (g : Bool) (k : Nat) : zSh := (SXl g).getD k (3, 0, 0, zn)
theorem sx_0 (g : Bool) : SX g 0 = (0, 8, 0, xR0 g) := rfl
theorem sx_1 (g : Bool) : SX g 1 = (1, 0, 500, zn) := rfl
theorem sx_2 (g : Bool) : SX g 2 = (0, 7, 0, xR2) := rfl
theorem sx_3 (g : Bool) : SX g 3 = (1, 0, 7, zn) := rfl
theorem sx_4 (g : Bool) : SX g 4 = (1, 0, 36, zn) := rfl
theorem sx_5 (g : Bool) : SX g 5 = (1, 0, 9, zn) := rfl
theorem sx_6 (g : Bool) : SX g 6 = (1, 0, 9, zn) := rfl
theorem sx_7 (g : Bool) : SX g 7 = (1, 0, 9, zn) := rfl
theorem sx_8 (g : Bool) : SX g 8 = (1, 0, 10, zn) := rfl
theorem sx_9 (g : Bool) : SX g 9 = (1, 0, 10, zn) := rfl
theorem sx_10 (g : Bool) : SX g 10 = (1, 0, 10, zn) := rfl
theorem sx_11 (g : Bool) : SX g 11 = (1, 0, 10, zn) := rfl
theorem sx_12 (g : Bool) : SX g 12 = (0, 7, 0, xR12) := rfl
theorem sx_13 (g : Bool) : SX g 13 = (1, 0, 7, zn) := rfl
theorem sx_14 (g : Bool) : SX g 14 = (1, 0, 36, zn) := rfl
theorem sx_15 (g : Bool) : SX g 15 = (1, 0, 9, zn) := rfl
theorem sx_16 (g : Bool) : SX g 16 = (1, 0, 9, zn) := rfl
theorem sx_17 (g : Bool) : SX g 17 = (1, 0, 9, zn) := rfl
theorem sx_18 (g : Bool) : SX g 18 = (1, 0, 10, zn) := rfl
theorem sx_19 (g : Bool) : SX g 19 = (1, 0, 10, zn) := rfl
theorem sx_20 (g : Bool) : SX g 20 = (1, 0, 10, zn) := rfl
theorem sx_21 (g : Bool) : SX g 21 = (1, 0, 10, zn) := rfl
theorem sx_22 (g : Bool) : SX g 22 = (0, 3, 0, xR22) := rfl
theorem sx_23 (g : Bool) : SX g 23 = (0, 5, 0, scR 23) := rfl
theorem sx_24 (g : Bool) : SX g 24 = (1, 0, 36, zn) := rfl
theorem sx_25 (g : Bool) : SX g 25 = (1, 0, 9, zn) := rfl
theorem sx_26 (g : Bool) : SX g 26 = (1, 0, 9, zn) := rfl
theorem sx_27 (g : Bool) : SX g 27 = (1, 0, 30, zn) := rfl
theorem sx_28 (g : Bool) : SX g 28 = (0, 5, 0, scR 28) := rfl
theorem sx_29 (g : Bool) : SX g 29 = (1, 0, 36, zn) := rfl
theorem sx_30 (g : Bool) : SX g 30 = (1, 0, 9, zn) := rfl
theorem sx_31 (g : Bool) : SX g 31 = (1, 0, 9, zn) := rfl
theorem sx_32 (g : Bool) : SX g 32 = (1, 0, 30, zn) := rfl
theorem sx_33 (g : Bool) : SX g 33 = (2, 4, 3, xR33) := rfl
theorem sx_34 (g : Bool) : SX g 34 = (0, 5, 0, scR 34) := rfl
theorem sx_35 (g : Bool) : SX g 35 = (1, 0, 36, zn) := rfl
theorem sx_36 (g : Bool) : SX g 36 = (1, 0, 9, zn) := rfl
theorem sx_37 (g : Bool) : SX g 37 = (1, 0, 9, zn) := rfl
theorem sx_38 (g : Bool) : SX g 38 = (1, 0, 30, zn) := rfl
theorem sx_39 (g : Bool) : SX g 39 = (0, 5, 0, scR 39) := rfl
theorem sx_40 (g : Bool) : SX g 40 = (1, 0, 36, zn) := rfl
theorem sx_41 (g : Bool) : SX g 41 = (1, 0, 9, zn) := rfl
theorem sx_42 (g : Bool) : SX g 42 = (1, 0, 9, zn) := rfl
theorem sx_43 (g : Bool) : SX g 43 = (1, 0, 30, zn) := rfl
theorem sx_44 (g : Bool) : SX g 44 = (0, 5, 0, scR 44) := rfl
theorem sx_45 (g : Bool) : SX g 45 = (1, 0, 36, zn) := rfl
theorem sx_46 (g : Bool) : SX g 46 = (1, 0, 9, zn) := rfl
theorem sx_47 (g : Bool) : SX g 47 = (1, 0, 9, zn) := rfl
theorem sx_48 (g : Bool) : SX g 48 = (1, 0, 30, zn) := rfl
theorem sx_49 (g : Bool) : SX g 49 = (0, 2, 0, xR49) := rfl
theorem sx_50 (g : Bool) : SX g 50 = (1, 0, 360, zn) := rfl
theorem sx_51 (g : Bool) : SX g 51 = (1, 0, 10, zn) := rfl
theorem sx_52 (g : Bool) : SX g 52 = (1, 0, 512, zn) := rfl
theorem sx_53 (g : Bool) : SX g 53 = (1, 0, 10, zn) := rfl
theorem sx_54 (g : Bool) : SX g 54 = (0, 0, 0, xR54) := rfl
theorem sx_55 (g : Bool) : SX g 55 = (1, 0, 8, zn) := rfl
theorem sx_56 (g : Bool) : SX g 56 = (1, 0, 256, zn) := rfl
theorem sx_57 (g : Bool) : SX g 57 = (0, 4, 0, xR57) := rfl
theorem sx_58 (g : Bool) : SX g 58 = (0, 6, 0, xR58) := rfl
theorem sx_59 (g : Bool) : SX g 59 = (0, 5, 0, scR 59) := rfl
theorem sx_60 (g : Bool) : SX g 60 = (1, 0, 36, zn) := rfl
theorem sx_61 (g : Bool) : SX g 61 = (1, 0, 9, zn) := rfl
theorem sx_62 (g : Bool) : SX g 62 = (1, 0, 9, zn) := rfl
theorem sx_63 (g : Bool) : SX g 63 = (1, 0, 30, zn) := rfl
theorem sx_64 (g : Bool) : SX g 64 = (0, 5, 0, scR 64) := rfl
theorem sx_65 (g : Bool) : SX g 65 = (1, 0, 36, zn) := rfl
theorem sx_66 (g : Bool) : SX g 66 = (1, 0, 9, zn) := rfl
theorem sx_67 (g : Bool) : SX g 67 = (1, 0, 9, zn) := rfl
theorem sx_68 (g : Bool) : SX g 68 = (1, 0, 30, zn) := rfl
theorem sx_69 (g : Bool) : SX g 69 = (0, 1, 0, xR69) := rfl
theorem sx_70 (g : Bool) : SX g 70 = (1, 0, 4, zn) := rfl
theorem sx_71 (g : Bool) : SX g 71 = (1, 0, 4, zn) := rfl
theorem sx_72 (g : Bool) : SX g 72 = (1, 0, 4, zn) := rfl
theorem sx_73 (g : Bool) : SX g 73 = (1, 0, 6561, zn) := rfl
theorem sx_74 (g : Bool) : SX g 74 = (1, 0, 6561, zn) := rfl
theorem sx_75 (g : Bool) : SX g 75 = (1, 0, 6561, zn) := rfl
theorem sx_33g : ∀ j, j < 3 → xR33 j = some ((fun j => 34 + 5 * j : Nat → Nat) j) := by
  intro j hj
  match j, hj with
  | 0, _ => rfl
  | 1, _ => rfl
  | 2, _ => rfl
  | j + 3, h => omega
def zSc (k : Nat) : Prop := k = 23 ∨ k = 28 ∨ k = 34 ∨ k = 39 ∨ k = 44 ∨ k = 59 ∨ k = 64
theorem zSc_23 : zSc 23 := by unfold zSc; decide
theorem zSc_28 : zSc 28 := by unfold zSc; decide
theorem zSc_34 : zSc 34 := by unfold zSc; decide
theorem zSc_39 : zSc 39 := by unfold zSc; decide
theorem zSc_44 : zSc 44 := by unfold zSc; decide
theorem zSc_59 : zSc 59 := by unfold zSc; decide
theorem zSc_64 : zSc 64 := by unfold zSc; decide
theorem zSc_img {i : Int32} (h : vp_in i 3) : zSc (34 + 5 * i.toNatClampNeg) := by
  have h1 : i.toNatClampNeg < 3 := Nat.not_le.mp fun q => h (Or.inr q)
  unfold zSc
  omega
theorem sxs_0 (g : Bool) {k : Nat} (h : zSc k) : SX g k = (0, 5, 0, scR k) := by rcases h with rfl | rfl | rfl | rfl | rfl | rfl | rfl <;> rfl
theorem sxs_1 (g : Bool) {k : Nat} (h : zSc k) : SX g (k + 1) = (1, 0, 36, zn) := by rcases h with rfl | rfl | rfl | rfl | rfl | rfl | rfl <;> rfl
theorem sxs_2 (g : Bool) {k : Nat} (h : zSc k) : SX g (k + 2) = (1, 0, 9, zn) := by rcases h with rfl | rfl | rfl | rfl | rfl | rfl | rfl <;> rfl
theorem sxs_3 (g : Bool) {k : Nat} (h : zSc k) : SX g (k + 3) = (1, 0, 9, zn) := by rcases h with rfl | rfl | rfl | rfl | rfl | rfl | rfl <;> rfl
theorem sxs_4 (g : Bool) {k : Nat} (h : zSc k) : SX g (k + 4) = (1, 0, 30, zn) := by rcases h with rfl | rfl | rfl | rfl | rfl | rfl | rfl <;> rfl
theorem sxs_lt {g : Bool} {k j : Nat} (h : zSc k) (hj : j < 5 := by decide) : k + j < nX g := by
  refine nx_lt ?_
  unfold zSc at h
  omega
theorem sxs_lt0 {g : Bool} {k : Nat} (h : zSc k) : k < nX g := sxs_lt (j := 0) h (by decide)
def mR0 : Nat → Option Nat := fun j => match j with
  | 8 => some 1
  | 9 => some 2
  | 10 => some 3
  | 11 => some 4
  | 12 => some 5
  | 13 => some 14
  | 14 => some 24
  | 15 => some 35
  | 16 => some 46
  | 17 => some 47
  | 18 => some 48
  | 19 => some 49
  | 23 => some 50
  | 24 => some 60
  | 25 => some 91
  | 26 => some 92
  | 27 => some 93
  | 28 => some 97
  | 32 => some 100
  | 33 => some 1125
  | 36 => some 1126
  | 37 => some 1127
  | 38 => some 1128
  | 39 => some 1129
  | 41 => some 1130
  | 42 => some 1131
  | 43 => some 1132
  | 44 => some 1133
  | _ => none
def SMl : List zSh := [(0, 9, 0, mR0), (1, 0, 500, zn), (1, 0, 600, zn), (1, 0, 6, zn), (1, 0, 6, zn), (2, 2, 8, zrw 8 6), (1, 0, 6, zn), (1, 0, 6, zn), (1, 0, 6, zn), (1, 0, 6, zn), (1, 0, 6, zn), (1, 0, 6, zn), (1, 0, 6, zn), (1, 0, 6, zn), (2, 2, 9, zrw 9 15), (1, 0, 6, zn), (1, 0, 6, zn), (1, 0, 6, zn), (1, 0, 6, zn), (1, 0, 6, zn), (1, 0, 6, zn), (1, 0, 6, zn), (1, 0, 6, zn), (1, 0, 6, zn), (2, 2, 10, zrw 10 25), (1, 0, 4, zn), (1, 0, 4, zn), (1, 0, 4, zn), (1, 0, 4, zn), (1, 0, 4, zn), (1, 0, 4, zn), (1, 0, 4, zn), (1, 0, 4, zn), (1, 0, 4, zn), (1, 0, 4, zn), (2, 2, 10, zrw 10 36), (1, 0, 4, zn), (1, 0, 4, zn), (1, 0, 4, zn), (1, 0, 4, zn), (1, 0, 4, zn), (1, 0, 4, zn), (1, 0, 4, zn), (1, 0, 4, zn), (1, 0, 4, zn), (1, 0, 4, zn), (1, 0, 7, zn), (1, 0, 7, zn), (1, 0, 8, zn), (1, 0, 9, zn), (2, 2, 9, zrw 9 51), (1, 0, 4, zn), (1, 0, 4, zn), (1, 0, 4, zn), (1, 0, 4, zn), (1, 0, 4, zn), (1, 0, 4, zn), (1, 0, 4, zn), (1, 0, 4, zn), (1, 0, 4, zn), (2, 2, 30, zrw 30 61), (1, 0, 4, zn), (1, 0, 4, zn), (1, 0, 4, zn), (1, 0, 4, zn), (1, 0, 4, zn), (1, 0, 4, zn), (1, 0, 4, zn), (1, 0, 4, zn), (1, 0, 4, zn), (1, 0, 4, zn), (1, 0, 4, zn), (1, 0, 4, zn), (1, 0, 4, zn), (1, 0, 4, zn), (1, 0, 4, zn), (1, 0, 4, zn), (1, 0, 4, zn), (1, 0, 4, zn), (1, 0, 4, zn), (1, 0, 4, zn), (1, 0, 4, zn), (1, 0, 4, zn), (1, 0, 4, zn), (1, 0, 4, zn), (1, 0, 4, zn), (1, 0, 4, zn), (1, 0, 4, zn), (1, 0, 4, zn), (1, 0, 4, zn), (1, 0, 4, zn), (1, 0, 9, zn), (1, 0, 10, zn), (2, 2, 3, zrw 3 94), (1, 0, 190, zn), (1, 0, 190, zn), (1, 0, 190, zn), (2, 2, 2, zrw 2 98), (1, 0, 190, zn), (1, 0, 190, zn), (2, 3, 1024, zrw 1024 101)]
def SMh : List zSh := [(1, 1, 10, zn), (1, 0, 10, zn), (1, 0, 2, zn), (1, 0, 4, zn), (1, 0, 4, zn), (1, 0, 6561, zn), (1, 0, 6561, zn), (1, 0, 6561, zn), (1, 0, 6561, zn)]
def SM (k : Nat) : zSh := if k < 101 then SMl.getD k (3, 0, 0, zn) else if k < 1125 then (1, 1, 512, zn) else SMh.getD (k - 1125) (3, 0, 0, zn)
theorem sm_0 : SM 0 = (0, 9, 0, mR0) := rfl
theorem sm_1 : SM 1 = (1, 0, 500, zn) := rfl
theorem sm_2 : SM 2 = (1, 0, 600, zn) := rfl
theorem sm_3 : SM 3 = (1, 0, 6, zn) := rfl
theorem sm_4 : SM 4 = (1, 0, 6, zn) := rfl
theorem sm_5 : SM 5 = (2, 2, 8, zrw 8 6) := rfl
theorem smg_5 : ∀ j, j < 8 → zrw 8 6 j = some ((fun j => 6 + j : Nat → Nat) j) := fun j hj => if_pos hj
theorem smr_5 {i : Int32} (h : vp_in i 8) : SM (6 + i.toNatClampNeg) = (1, 0, 6, zn) ∧ 6 + i.toNatClampNeg < 1134 := by
  have h1 : i.toNatClampNeg < 8 := Nat.not_le.mp fun q => h (Or.inr q)
  generalize i.toNatClampNeg = j at h1
  refine ⟨?_, by omega⟩
  match j, h1 with
  | 0, _ => rfl
  | 1, _ => rfl
  | 2, _ => rfl
  | 3, _ => rfl
  | 4, _ => rfl
  | 5, _ => rfl
  | 6, _ => rfl
  | 7, _ => rfl
  | j + 8, h => omega
theorem sm_6 : SM 6 = (1, 0, 6, zn) := rfl
theorem sm_7 : SM 7 = (1, 0, 6, zn) := rfl
theorem sm_8 : SM 8 = (1, 0, 6, zn) := rfl
theorem sm_9 : SM 9 = (1, 0, 6, zn) := rfl
theorem sm_10 : SM 10 = (1, 0, 6, zn) := rfl
theorem sm_11 : SM 11 = (1, 0, 6, zn) := rfl
theorem sm_12 : SM 12 = (1, 0, 6, zn) := rfl
theorem sm_13 : SM 13 = (1, 0, 6, zn) := rfl
theorem sm_14 : SM 14 = (2, 2, 9, zrw 9 15) := rfl
theorem smg_14 : ∀ j, j < 9 → zrw 9 15 j = some ((fun j => 15 + j : Nat → Nat) j) := fun j hj => if_pos hj
theorem smr_14 {i : Int32} (h : vp_in i 9) : SM (15 + i.toNatClampNeg) = (1, 0, 6, zn) ∧ 15 + i.toNatClampNeg < 1134 := by
  have h1 : i.toNatClampNeg < 9 := Nat.not_le.mp fun q => h (Or.inr q)
  generalize i.toNatClampNeg = j at h1
  refine ⟨?_, by omega⟩
  match j, h1 with
  | 0, _ => rfl
  | 1, _ => rfl
  | 2, _ => rfl
  | 3, _ => rfl
  | 4, _ => rfl
  | 5, _ => rfl
  | 6, _ => rfl
  | 7, _ => rfl
  | 8, _ => rfl
  | j + 9, h => omega
theorem sm_15 : SM 15 = (1, 0, 6, zn) := rfl
theorem sm_16 : SM 16 = (1, 0, 6, zn) := rfl
theorem sm_17 : SM 17 = (1, 0, 6, zn) := rfl
theorem sm_18 : SM 18 = (1, 0, 6, zn) := rfl
theorem sm_19 : SM 19 = (1, 0, 6, zn) := rfl
theorem sm_20 : SM 20 = (1, 0, 6, zn) := rfl
theorem sm_21 : SM 21 = (1, 0, 6, zn) := rfl
theorem sm_22 : SM 22 = (1, 0, 6, zn) := rfl
theorem sm_23 : SM 23 = (1, 0, 6, zn) := rfl
theorem sm_24 : SM 24 = (2, 2, 10, zrw 10 25) := rfl
theorem smg_24 : ∀ j, j < 10 → zrw 10 25 j = some ((fun j => 25 + j : Nat → Nat) j) := fun j hj => if_pos hj
theorem smr_24 {i : Int32} (h : vp_in i 10) : SM (25 + i.toNatClampNeg) = (1, 0, 4, zn) ∧ 25 + i.toNatClampNeg < 1134 := by
  have h1 : i.toNatClampNeg < 10 := Nat.not_le.mp fun q => h (Or.inr q)
  generalize i.toNatClampNeg = j at h1
  refine ⟨?_, by omega⟩
  match j, h1 with
  | 0, _ => rfl
  | 1, _ => rfl
  | 2, _ => rfl
  | 3, _ => rfl
  | 4, _ => rfl
  | 5, _ => rfl
  | 6, _ => rfl
  | 7, _ => rfl
  | 8, _ => rfl
  | 9, _ => rfl
  | j + 10, h => omega
theorem sm_25 : SM 25 = (1, 0, 4, zn) := rfl
theorem sm_26 : SM 26 = (1, 0, 4, zn) := rfl
theorem sm_27 : SM 27 = (1, 0, 4, zn) := rfl
theorem sm_28 : SM 28 = (1, 0, 4, zn) := rfl
theorem sm_29 : SM 29 = (1, 0, 4, zn) := rfl
theorem sm_30 : SM 30 = (1, 0, 4, zn) := rfl
theorem sm_31 : SM 31 = (1, 0, 4, zn) := rfl
theorem sm_32 : SM 32 = (1, 0, 4, zn) := rfl
theorem sm_33 : SM 33 = (1, 0, 4, zn) := rfl
theorem sm_34 : SM 34 = (1, 0, 4, zn) := rfl
theorem sm_35 : SM 35 = (2, 2, 10, zrw 10 36) := rfl
theorem smg_35 : ∀ j, j < 10 → zrw 10 36 j = some ((fun j => 36 + j : Nat → Nat) j) := fun j hj => if_pos hj
theorem smr_35 {i : Int32} (h : vp_in i 10) : SM (36 + i.toNatClampNeg) = (1, 0, 4, zn) ∧ 36 + i.toNatClampNeg < 1134 := by
  have h1 : i.toNatClampNeg < 10 := Nat.not_le.mp fun q => h (Or.inr q)
  generalize i.toNatClampNeg = j at h1
  refine ⟨?_, by omega⟩
  match j, h1 with
  | 0, _ => rfl
  | 1, _ => rfl
  | 2, _ => rfl
  | 3, _ => rfl
  | 4, _ => rfl
  | 5, _ => rfl
  | 6, _ => rfl
  | 7, _ => rfl
  | 8, _ => rfl
  | 9, _ => rfl
  | j + 10, h => omega
theorem sm_36 : SM 36 = (1, 0, 4, zn) := rfl
theorem sm_37 : SM 37 = (1, 0, 4, zn) := rfl
theorem sm_38 : SM 38 = (1, 0, 4, zn) := rfl
theorem sm_39 : SM 39 = (1, 0, 4, zn) := rfl
theorem sm_40 : SM 40 = (1, 0, 4, zn) := rfl
theorem sm_41 : SM 41 = (1, 0, 4, zn) := rfl
theorem sm_42 : SM 42 = (1, 0, 4, zn) := rfl
theorem sm_43 : SM 43 = (1, 0, 4, zn) := rfl
theorem sm_44 : SM 44 = (1, 0, 4, zn) := rfl
theorem sm_45 : SM 45 = (1, 0, 4, zn) := rfl
theorem sm_46 : SM 46 = (1, 0, 7, zn) := rfl
theorem sm_47 : SM 47 = (1, 0, 7, zn) := rfl
theorem sm_48 : SM 48 = (1, 0, 8, zn) := rfl
theorem sm_49 : SM 49 = (1, 0, 9, zn) := rfl
theorem sm_50 : SM 50 = (2, 2, 9, zrw 9 51) := rfl
theorem smg_50 : ∀ j, j < 9 → zrw 9 51 j = some ((fun j => 51 + j : Nat → Nat) j) := fun j hj => if_pos hj
theorem smr_50 {i : Int32} (h : vp_in i 9) : SM (51 + i.toNatClampNeg) = (1, 0, 4, zn) ∧ 51 + i.toNatClampNeg < 1134 := by
  have h1 : i.toNatClampNeg < 9 := Nat.not_le.mp fun q => h (Or.inr q)
  generalize i.toNatClampNeg = j at h1
  refine ⟨?_, by omega⟩
  match j, h1 with
  | 0, _ => rfl
  | 1, _ => rfl
  | 2, _ => rfl
  | 3, _ => rfl
  | 4, _ => rfl
  | 5, _ => rfl
  | 6, _ => rfl
  | 7, _ => rfl
  | 8, _ => rfl
  | j + 9, h => omega
theorem sm_51 : SM 51 = (1, 0, 4, zn) := rfl
theorem sm_52 : SM 52 = (1, 0, 4, zn) := rfl
theorem sm_53 : SM 53 = (1, 0, 4, zn) := rfl
theorem sm_54 : SM 54 = (1, 0, 4, zn) := rfl
theorem sm_55 : SM 55 = (1, 0, 4, zn) := rfl
theorem sm_56 : SM 56 = (1, 0, 4, zn) := rfl
theorem sm_57 : SM 57 = (1, 0, 4, zn) := rfl
theorem sm_58 : SM 58 = (1, 0, 4, zn) := rfl
theorem sm_59 : SM 59 = (1, 0, 4, zn) := rfl
theorem sm_60 : SM 60 = (2, 2, 30, zrw 30 61) := rfl
theorem smg_60 : ∀ j, j < 30 → zrw 30 61 j = some ((fun j => 61 + j : Nat → Nat) j) := fun j hj => if_pos hj
theorem smr_60 {i : Int32} (h : vp_in i 30) : SM (61 + i.toNatClampNeg) = (1, 0, 4, zn) ∧ 61 + i.toNatClampNeg < 1134 := by
  have h1 : i.toNatClampNeg < 30 := Nat.not_le.mp fun q => h (Or.inr q)
  generalize i.toNatClampNeg = j at h1
  refine ⟨?_, by omega⟩
  match j, h1 with
  | 0, _ => rfl
  | 1, _ => rfl
  | 2, _ => rfl
  | 3, _ => rfl
  | 4, _ => rfl
  | 5, _ => rfl
  | 6, _ => rfl
  | 7, _ => rfl
  | 8, _ => rfl
  | 9, _ => rfl
  | 10, _ => rfl
  | 11, _ => rfl
  | 12, _ => rfl
  | 13, _ => rfl
  | 14, _ => rfl
  | 15, _ => rfl
  | 16, _ => rfl
  | 17, _ => rfl
  | 18, _ => rfl
  | 19, _ => rfl
  | 20, _ => rfl
  | 21, _ => rfl
  | 22, _ => rfl
  | 23, _ => rfl
  | 24, _ => rfl
  | 25, _ => rfl
  | 26, _ => rfl
  | 27, _ => rfl
  | 28, _ => rfl
  | 29, _ => rfl
  | j + 30, h => omega
theorem sm_61 : SM 61 = (1, 0, 4, zn) := rfl
theorem sm_62 : SM 62 = (1, 0, 4, zn) := rfl
theorem sm_63 : SM 63 = (1, 0, 4, zn) := rfl
theorem sm_64 : SM 64 = (1, 0, 4, zn) := rfl
theorem sm_65 : SM 65 = (1, 0, 4, zn) := rfl
theorem sm_66 : SM 66 = (1, 0, 4, zn) := rfl
theorem sm_67 : SM 67 = (1, 0, 4, zn) := rfl
theorem sm_68 : SM 68 = (1, 0, 4, zn) := rfl
theorem sm_69 : SM 69 = (1, 0, 4, zn) := rfl
theorem sm_70 : SM 70 = (1, 0, 4, zn) := rfl
theorem sm_71 : SM 71 = (1, 0, 4, zn) := rfl
theorem sm_72 : SM 72 = (1, 0, 4, zn) := rfl
theorem sm_73 : SM 73 = (1, 0, 4, zn) := rfl
theorem sm_74 : SM 74 = (1, 0, 4, zn) := rfl
theorem sm_75 : SM 75 = (1, 0, 4, zn) := rfl
theorem sm_76 : SM 76 = (1, 0, 4, zn) := rfl
theorem sm_77 : SM 77 = (1, 0, 4, zn) := rfl
theorem sm_78 : SM 78 = (1, 0, 4, zn) := rfl
theorem sm_79 : SM 79 = (1, 0, 4, zn) := rfl
theorem sm_80 : SM 80 = (1, 0, 4, zn) := rfl
theorem sm_81 : SM 81 = (1, 0, 4, zn) := rfl
theorem sm_82 : SM 82 = (1, 0, 4, zn) := rfl
theorem sm_83 : SM 83 = (1, 0, 4, zn) := rfl
theorem sm_84 : SM 84 = (1, 0, 4, zn) := rfl
theorem sm_85 : SM 85 = (1, 0, 4, zn) := rfl
theorem sm_86 : SM 86 = (1, 0, 4, zn) := rfl
theorem sm_87 : SM 87 = (1, 0, 4, zn) := rfl
theorem sm_88 : SM 88 = (1, 0, 4, zn) := rfl
theorem sm_89 : SM 89 = (1, 0, 4, zn) := rfl
theorem sm_90 : SM 90 = (1, 0, 4, zn) := rfl
theorem sm_91 : SM 91 = (1, 0, 9, zn) := rfl
theorem sm_92 : SM 92 = (1, 0, 10, zn) := rfl
theorem sm_93 : SM 93 = (2, 2, 3, zrw 3 94) := rfl
theorem smg_93 : ∀ j, j < 3 → zrw 3 94 j = some ((fun j => 94 + j : Nat → Nat) j) := fun j hj => if_pos hj
theorem smr_93 {i : Int32} (h : vp_in i 3) : SM (94 + i.toNatClampNeg) = (1, 0, 190, zn) ∧ 94 + i.toNatClampNeg < 1134 := by
  have h1 : i.toNatClampNeg < 3 := Nat.not_le.mp fun q => h (Or.inr q)
  generalize i.toNatClampNeg = j at h1
  refine ⟨?_, by omega⟩
  match j, h1 with
  | 0, _ => rfl
  | 1, _ => rfl
  | 2, _ => rfl
  | j + 3, h => omega
theorem sm_94 : SM 94 = (1, 0, 190, zn) := rfl
theorem sm_95 : SM 95 = (1, 0, 190, zn) := rfl
theorem sm_96 : SM 96 = (1, 0, 190, zn) := rfl
theorem sm_97 : SM 97 = (2, 2, 2, zrw 2 98) := rfl
theorem smg_97 : ∀ j, j < 2 → zrw 2 98 j = some ((fun j => 98 + j : Nat → Nat) j) := fun j hj => if_pos hj
theorem smr_97 {i : Int32} (h : vp_in i 2) : SM (98 + i.toNatClampNeg) = (1, 0, 190, zn) ∧ 98 + i.toNatClampNeg < 1134 := by
  have h1 : i.toNatClampNeg < 2 := Nat.not_le.mp fun q => h (Or.inr q)
  generalize i.toNatClampNeg = j at h1
  refine ⟨?_, by omega⟩
  match j, h1 with
  | 0, _ => rfl
  | 1, _ => rfl
  | j + 2, h => omega
theorem sm_98 : SM 98 = (1, 0, 190, zn) := rfl
theorem sm_99 : SM 99 = (1, 0, 190, zn) := rfl
theorem sm_100 : SM 100 = (2, 3, 1024, zrw 1024 101) := rfl
theorem smg_100 : ∀ j, j < 1024 → zrw 1024 101 j = some ((fun j => 101 + j : Nat → Nat) j) := fun j hj => if_pos hj
theorem smr_100 {i : Int32} (h : vp_in i 1024) : SM (101 + i.toNatClampNeg) = (1, 1, 512, zn) ∧ 101 + i.toNatClampNeg < 1134 := by
  have h1 : i.toNatClampNeg < 1024 := Nat.not_le.mp fun q => h (Or.inr q)
  generalize i.toNatClampNeg = j at h1
  refine ⟨?_, by omega⟩
  unfold SM; rw [if_neg (by omega), if_pos (by omega)]
theorem sm_1125 : SM 1125 = (1, 1, 10, zn) := rfl
theorem sm_1126 : SM 1126 = (1, 0, 10, zn) := rfl
theorem sm_1127 : SM 1127 = (1, 0, 2, zn) := rfl
theorem sm_1128 : SM 1128 = (1, 0, 4, zn) := rfl
theorem sm_1129 : SM 1129 = (1, 0, 4, zn) := rfl
theorem sm_1130 : SM 1130 = (1, 0, 6561, zn) := rfl
theorem sm_1131 : SM 1131 = (1, 0, 6561, zn) := rfl
theorem sm_1132 : SM 1132 = (1, 0, 6561, zn) := rfl
theorem sm_1133 : SM 1133 = (1, 0, 6561, zn) := rfl
/-! words of the tables, by their places -/
theorem zm_1 {w : Cond} (h : w ∈ tables_1_1) : w ∈ lw_tbl := List.mem_append_right _ (List.mem_append_left _ h)
theorem zm_2 {w : Cond} (h : w ∈ tables_1_2) : w ∈ lw_tbl := List.mem_append_right _ (List.mem_append_right _ (List.mem_append_left _ h))
theorem zm_3 {w : Cond} (h : w ∈ tables_1_3) : w ∈ lw_tbl := List.mem_append_right _ (List.mem_append_right _ (List.mem_append_right _ (List.mem_append_left _ h)))
theorem zm_4 {w : Cond} (h : w ∈ tables_1_4) : w ∈ lw_tbl := List.mem_append_right _ (List.mem_append_right _ (List.mem_append_right _ (List.mem_append_right _ (List.mem_append_left _ h))))
theorem zm_5 {w : Cond} (h : w ∈ tables_1_5) : w ∈ lw_tbl := List.mem_append_right _ (List.mem_append_right _ (List.mem_append_right _ (List.mem_append_right _ (List.mem_append_right _ (List.mem_append_left _ h)))))
theorem zm_6 {w : Cond} (h : w ∈ tables_1_6) : w ∈ lw_tbl := List.mem_append_right _ (List.mem_append_right _ (List.mem_append_right _ (List.mem_append_right _ (List.mem_append_right _ (List.mem_append_right _ (List.mem_append_left _ h))))))
theorem zm_7 {w : Cond} (h : w ∈ tables_1_7) : w ∈ lw_tbl := List.mem_append_right _ (List.mem_append_right _ (List.mem_append_right _ (List.mem_append_right _ (List.mem_append_right _ (List.mem_append_right _ (List.mem_append_right _ (List.mem_append_left _ h)))))))
theorem zm_8 {w : Cond} (h : w ∈ tables_1_8) : w ∈ lw_tbl := List.mem_append_right _ (List.mem_append_right _ (List.mem_append_right _ (List.mem_append_right _ (List.mem_append_right _ (List.mem_append_right _ (List.mem_append_right _ (List.mem_append_right _ (List.mem_append_left _ h))))))))
theorem zm_9 {w : Cond} (h : w ∈ tables_1_9) : w ∈ lw_tbl := List.mem_append_right _ (List.mem_append_right _ (List.mem_append_right _ (List.mem_append_right _ (List.mem_append_right _ (List.mem_append_right _ (List.mem_append_right _ (List.mem_append_right _ (List.mem_append_right _ (List.mem_append_left _ h)))))))))
theorem zm_10 {w : Cond} (h : w ∈ tables_1_10) : w ∈ lw_tbl := List.mem_append_right _ (List.mem_append_right _ (List.mem_append_right _ (List.mem_append_right _ (List.mem_append_right _ (List.mem_append_right _ (List.mem_append_right _ (List.mem_append_right _ (List.mem_append_right _ (List.mem_append_right _ (h))))))))))
theorem zp_1 {q : MethodName × Nat} (h : q ∈ lw_privs_1) : Cond.selects q.1.cls q.1 q.1 ∈ zTb := zTb_mem (List.mem_append_left _ (List.mem_map.mpr ⟨q, List.mem_append_left _ h, rfl⟩)) rfl
theorem zp_2 {q : MethodName × Nat} (h : q ∈ lw_privs_2) : Cond.selects q.1.cls q.1 q.1 ∈ zTb := zTb_mem (List.mem_append_left _ (List.mem_map.mpr ⟨q, List.mem_append_right _ (List.mem_append_left _ h), rfl⟩)) rfl
theorem zp_3 {q : MethodName × Nat} (h : q ∈ lw_privs_3) : Cond.selects q.1.cls q.1 q.1 ∈ zTb := zTb_mem (List.mem_append_left _ (List.mem_map.mpr ⟨q, List.mem_append_right _ (List.mem_append_right _ (List.mem_append_left _ h)), rfl⟩)) rfl
theorem zp_4 {q : MethodName × Nat} (h : q ∈ lw_privs_4) : Cond.selects q.1.cls q.1 q.1 ∈ zTb := zTb_mem (List.mem_append_left _ (List.mem_map.mpr ⟨q, List.mem_append_right _ (List.mem_append_right _ (List.mem_append_right _ (List.mem_append_left _ h))), rfl⟩)) rfl
theorem zp_5 {q : MethodName × Nat} (h : q ∈ lw_privs_5) : Cond.selects q.1.cls q.1 q.1 ∈ zTb := zTb_mem (List.mem_append_left _ (List.mem_map.mpr ⟨q, List.mem_append_right _ (List.mem_append_right _ (List.mem_append_right _ (List.mem_append_right _ (List.mem_append_left _ h)))), rfl⟩)) rfl
theorem zp_6 {q : MethodName × Nat} (h : q ∈ lw_privs_6) : Cond.selects q.1.cls q.1 q.1 ∈ zTb := zTb_mem (List.mem_append_left _ (List.mem_map.mpr ⟨q, List.mem_append_right _ (List.mem_append_right _ (List.mem_append_right _ (List.mem_append_right _ (List.mem_append_right _ (List.mem_append_left _ h))))), rfl⟩)) rfl
theorem zp_7 {q : MethodName × Nat} (h : q ∈ lw_privs_7) : Cond.selects q.1.cls q.1 q.1 ∈ zTb := zTb_mem (List.mem_append_left _ (List.mem_map.mpr ⟨q, List.mem_append_right _ (List.mem_append_right _ (List.mem_append_right _ (List.mem_append_right _ (List.mem_append_right _ (List.mem_append_right _ (List.mem_append_left _ h)))))), rfl⟩)) rfl
theorem zp_8 {q : MethodName × Nat} (h : q ∈ lw_privs_8) : Cond.selects q.1.cls q.1 q.1 ∈ zTb := zTb_mem (List.mem_append_left _ (List.mem_map.mpr ⟨q, List.mem_append_right _ (List.mem_append_right _ (List.mem_append_right _ (List.mem_append_right _ (List.mem_append_right _ (List.mem_append_right _ (List.mem_append_right _ (List.mem_append_left _ h))))))), rfl⟩)) rfl
theorem zp_9 {q : MethodName × Nat} (h : q ∈ lw_privs_9) : Cond.selects q.1.cls q.1 q.1 ∈ zTb := zTb_mem (List.mem_append_left _ (List.mem_map.mpr ⟨q, List.mem_append_right _ (List.mem_append_right _ (List.mem_append_right _ (List.mem_append_right _ (List.mem_append_right _ (List.mem_append_right _ (List.mem_append_right _ (List.mem_append_right _ (List.mem_append_left _ h)))))))), rfl⟩)) rfl
theorem zp_10 {q : MethodName × Nat} (h : q ∈ lw_privs_10) : Cond.selects q.1.cls q.1 q.1 ∈ zTb := zTb_mem (List.mem_append_left _ (List.mem_map.mpr ⟨q, List.mem_append_right _ (List.mem_append_right _ (List.mem_append_right _ (List.mem_append_right _ (List.mem_append_right _ (List.mem_append_right _ (List.mem_append_right _ (List.mem_append_right _ (List.mem_append_right _ (h))))))))), rfl⟩)) rfl
