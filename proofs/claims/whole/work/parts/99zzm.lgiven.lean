/-! THE CLAIM, 1: what the start gives -/
def zNar : List Cond := flatC (Jvm.Cond.and given_1 narrow_1)
def zTm (i : Nat) : Term := match i with
  | 0 => .string "TwoHandles$Reader" 142
  | 1 => .string "TwoHandles$Reader" 147
  | 2 => .string "TwoHandles$Reader" 149
  | 3 => .string "TwoHandles$Reader" 151
  | 4 => .string "TwoHandles$Reader" 153
  | 5 => .string "TwoHandles$Reader" 155
  | 6 => .string "TwoHandles$Reader" 156
  | 7 => .string "TwoHandles$Reader" 157
  | 8 => .string "TwoHandles" 98
  | 9 => .string "TwoHandles" 138
  | 10 => .string "TwoHandles" 201
  | 11 => .string "TwoHandles" 210
  | 12 => .string "TwoHandles" 266
  | 13 => .string "TwoHandles" 302
  | 14 => .string "TwoHandles" 342
  | 15 => .string "TwoHandles" 367
  | 16 => .string "TwoHandles" 370
  | 17 => .string "TwoHandles" 372
  | 18 => .string "TwoHandles" 374
  | 19 => .string "TwoHandles" 376
  | 20 => .string "TwoHandles" 378
  | _ => .int 0
theorem nr_ex : ∀ i, i < 21 → Cond.exactly (zTm i) "java/lang/String" ∈ zNar
  | 0, _ => List.mem_of_getElem? (i := 385) (by decide +kernel)
  | 1, _ => List.mem_of_getElem? (i := 393) (by decide +kernel)
  | 2, _ => List.mem_of_getElem? (i := 403) (by decide +kernel)
  | 3, _ => List.mem_of_getElem? (i := 413) (by decide +kernel)
  | 4, _ => List.mem_of_getElem? (i := 420) (by decide +kernel)
  | 5, _ => List.mem_of_getElem? (i := 428) (by decide +kernel)
  | 6, _ => List.mem_of_getElem? (i := 435) (by decide +kernel)
  | 7, _ => List.mem_of_getElem? (i := 442) (by decide +kernel)
  | 8, _ => List.mem_of_getElem? (i := 352) (by decide +kernel)
  | 9, _ => List.mem_of_getElem? (i := 451) (by decide +kernel)
  | 10, _ => List.mem_of_getElem? (i := 536) (by decide +kernel)
  | 11, _ => List.mem_of_getElem? (i := 556) (by decide +kernel)
  | 12, _ => List.mem_of_getElem? (i := 585) (by decide +kernel)
  | 13, _ => List.mem_of_getElem? (i := 641) (by decide +kernel)
  | 14, _ => List.mem_of_getElem? (i := 467) (by decide +kernel)
  | 15, _ => List.mem_of_getElem? (i := 505) (by decide +kernel)
  | 16, _ => List.mem_of_getElem? (i := 485) (by decide +kernel)
  | 17, _ => List.mem_of_getElem? (i := 521) (by decide +kernel)
  | 18, _ => List.mem_of_getElem? (i := 621) (by decide +kernel)
  | 19, _ => List.mem_of_getElem? (i := 605) (by decide +kernel)
  | 20, _ => List.mem_of_getElem? (i := 668) (by decide +kernel)
  | i + 21, h => absurd h (by omega)
theorem nr_co : ∀ i, i < 8 → Cond.eq (.field (zTm i) "java/lang/String" "coder" "B") (.int 0) ∈ zNar
  | 0, _ => List.mem_of_getElem? (i := 386) (by decide +kernel)
  | 1, _ => List.mem_of_getElem? (i := 394) (by decide +kernel)
  | 2, _ => List.mem_of_getElem? (i := 404) (by decide +kernel)
  | 3, _ => List.mem_of_getElem? (i := 414) (by decide +kernel)
  | 4, _ => List.mem_of_getElem? (i := 421) (by decide +kernel)
  | 5, _ => List.mem_of_getElem? (i := 429) (by decide +kernel)
  | 6, _ => List.mem_of_getElem? (i := 436) (by decide +kernel)
  | 7, _ => List.mem_of_getElem? (i := 443) (by decide +kernel)
  | i + 8, h => absurd h (by omega)
theorem nr_ar : ∀ i, i < 8 → Cond.arrayOf (.field (zTm i) "java/lang/String" "value" "[B") .byte ∈ zNar
  | 0, _ => List.mem_of_getElem? (i := 387) (by decide +kernel)
  | 1, _ => List.mem_of_getElem? (i := 395) (by decide +kernel)
  | 2, _ => List.mem_of_getElem? (i := 405) (by decide +kernel)
  | 3, _ => List.mem_of_getElem? (i := 415) (by decide +kernel)
  | 4, _ => List.mem_of_getElem? (i := 422) (by decide +kernel)
  | 5, _ => List.mem_of_getElem? (i := 430) (by decide +kernel)
  | 6, _ => List.mem_of_getElem? (i := 437) (by decide +kernel)
  | 7, _ => List.mem_of_getElem? (i := 444) (by decide +kernel)
  | i + 8, h => absurd h (by omega)
theorem nr_le : ∀ i, i < 8 → Cond.eq (.length (.field (zTm i) "java/lang/String" "value" "[B")) (.int (Int32.ofNat (zStrLen.getD i 0))) ∈ zNar
  | 0, _ => List.mem_of_getElem? (i := 388) (by decide +kernel)
  | 1, _ => List.mem_of_getElem? (i := 396) (by decide +kernel)
  | 2, _ => List.mem_of_getElem? (i := 406) (by decide +kernel)
  | 3, _ => List.mem_of_getElem? (i := 416) (by decide +kernel)
  | 4, _ => List.mem_of_getElem? (i := 423) (by decide +kernel)
  | 5, _ => List.mem_of_getElem? (i := 431) (by decide +kernel)
  | 6, _ => List.mem_of_getElem? (i := 438) (by decide +kernel)
  | 7, _ => List.mem_of_getElem? (i := 445) (by decide +kernel)
  | i + 8, h => absurd h (by omega)
theorem nr_el0 : ∀ j, j < 4 → Cond.eq (.elem (.field (zTm 0) "java/lang/String" "value" "[B") (.int (Int32.ofNat j))) (.int ((zStrByt.getD 0 []).getD j 0)) ∈ zNar
  | 0, _ => List.mem_of_getElem? (i := 389) (by decide +kernel)
  | 1, _ => List.mem_of_getElem? (i := 390) (by decide +kernel)
  | 2, _ => List.mem_of_getElem? (i := 391) (by decide +kernel)
  | 3, _ => List.mem_of_getElem? (i := 392) (by decide +kernel)
  | j + 4, h => absurd h (by omega)
theorem nr_el1 : ∀ j, j < 6 → Cond.eq (.elem (.field (zTm 1) "java/lang/String" "value" "[B") (.int (Int32.ofNat j))) (.int ((zStrByt.getD 1 []).getD j 0)) ∈ zNar
  | 0, _ => List.mem_of_getElem? (i := 397) (by decide +kernel)
  | 1, _ => List.mem_of_getElem? (i := 398) (by decide +kernel)
  | 2, _ => List.mem_of_getElem? (i := 399) (by decide +kernel)
  | 3, _ => List.mem_of_getElem? (i := 400) (by decide +kernel)
  | 4, _ => List.mem_of_getElem? (i := 401) (by decide +kernel)
  | 5, _ => List.mem_of_getElem? (i := 402) (by decide +kernel)
  | j + 6, h => absurd h (by omega)
theorem nr_el2 : ∀ j, j < 6 → Cond.eq (.elem (.field (zTm 2) "java/lang/String" "value" "[B") (.int (Int32.ofNat j))) (.int ((zStrByt.getD 2 []).getD j 0)) ∈ zNar
  | 0, _ => List.mem_of_getElem? (i := 407) (by decide +kernel)
  | 1, _ => List.mem_of_getElem? (i := 408) (by decide +kernel)
  | 2, _ => List.mem_of_getElem? (i := 409) (by decide +kernel)
  | 3, _ => List.mem_of_getElem? (i := 410) (by decide +kernel)
  | 4, _ => List.mem_of_getElem? (i := 411) (by decide +kernel)
  | 5, _ => List.mem_of_getElem? (i := 412) (by decide +kernel)
  | j + 6, h => absurd h (by omega)
theorem nr_el3 : ∀ j, j < 3 → Cond.eq (.elem (.field (zTm 3) "java/lang/String" "value" "[B") (.int (Int32.ofNat j))) (.int ((zStrByt.getD 3 []).getD j 0)) ∈ zNar
  | 0, _ => List.mem_of_getElem? (i := 417) (by decide +kernel)
  | 1, _ => List.mem_of_getElem? (i := 418) (by decide +kernel)
  | 2, _ => List.mem_of_getElem? (i := 419) (by decide +kernel)
  | j + 3, h => absurd h (by omega)
theorem nr_el4 : ∀ j, j < 4 → Cond.eq (.elem (.field (zTm 4) "java/lang/String" "value" "[B") (.int (Int32.ofNat j))) (.int ((zStrByt.getD 4 []).getD j 0)) ∈ zNar
  | 0, _ => List.mem_of_getElem? (i := 424) (by decide +kernel)
  | 1, _ => List.mem_of_getElem? (i := 425) (by decide +kernel)
  | 2, _ => List.mem_of_getElem? (i := 426) (by decide +kernel)
  | 3, _ => List.mem_of_getElem? (i := 427) (by decide +kernel)
  | j + 4, h => absurd h (by omega)
theorem nr_el5 : ∀ j, j < 3 → Cond.eq (.elem (.field (zTm 5) "java/lang/String" "value" "[B") (.int (Int32.ofNat j))) (.int ((zStrByt.getD 5 []).getD j 0)) ∈ zNar
  | 0, _ => List.mem_of_getElem? (i := 432) (by decide +kernel)
  | 1, _ => List.mem_of_getElem? (i := 433) (by decide +kernel)
  | 2, _ => List.mem_of_getElem? (i := 434) (by decide +kernel)
  | j + 3, h => absurd h (by omega)
theorem nr_el6 : ∀ j, j < 3 → Cond.eq (.elem (.field (zTm 6) "java/lang/String" "value" "[B") (.int (Int32.ofNat j))) (.int ((zStrByt.getD 6 []).getD j 0)) ∈ zNar
  | 0, _ => List.mem_of_getElem? (i := 439) (by decide +kernel)
  | 1, _ => List.mem_of_getElem? (i := 440) (by decide +kernel)
  | 2, _ => List.mem_of_getElem? (i := 441) (by decide +kernel)
  | j + 3, h => absurd h (by omega)
theorem nr_el7 : ∀ j, j < 5 → Cond.eq (.elem (.field (zTm 7) "java/lang/String" "value" "[B") (.int (Int32.ofNat j))) (.int ((zStrByt.getD 7 []).getD j 0)) ∈ zNar
  | 0, _ => List.mem_of_getElem? (i := 446) (by decide +kernel)
  | 1, _ => List.mem_of_getElem? (i := 447) (by decide +kernel)
  | 2, _ => List.mem_of_getElem? (i := 448) (by decide +kernel)
  | 3, _ => List.mem_of_getElem? (i := 449) (by decide +kernel)
  | 4, _ => List.mem_of_getElem? (i := 450) (by decide +kernel)
  | j + 5, h => absurd h (by omega)
theorem nr_el : ∀ i, i < 8 → ∀ j, j < zStrLen.getD i 0 → Cond.eq (.elem (.field (zTm i) "java/lang/String" "value" "[B") (.int (Int32.ofNat j))) (.int ((zStrByt.getD i []).getD j 0)) ∈ zNar
  | 0, _ => nr_el0
  | 1, _ => nr_el1
  | 2, _ => nr_el2
  | 3, _ => nr_el3
  | 4, _ => nr_el4
  | 5, _ => nr_el5
  | 6, _ => nr_el6
  | 7, _ => nr_el7
  | i + 8, h => absurd h (by omega)
section ZST
variable {s : State} {b : Nat} {A : Nat → Prop}
theorem st_arr {args : Array Value} {ty : FieldType} (h : (Cond.arrayClass ty).before args s = true) : ∃ c, ArrOfT s c ty ∧ s.vm.findClass ("[" ++ ty.toString) = some c := by
  obtain ⟨c, k, comp, h1, h2, h3⟩ := Cond.arrayClass_spec (args := args) (first := s) (o := none) (s := s) (idx := []) h
  exact ⟨c, fun n z => ⟨(fun q e => by cases e), k, h2, comp, h3⟩, h1⟩
theorem st_arrA {args : Array Value} {t : FieldType} (h : (Cond.arrayOver (.array t)).before args s = true) : ∃ c, ArrOfT s c (.array t) ∧ s.vm.findClass ("[" ++ (FieldType.array t).toString) = some c := by
  obtain ⟨comp, c, k, hc, hi, hk, hkind, hn⟩ := arrayOverA_spec (args := args) (first := s) (o := none) (s := s) (idx := []) h
  exact ⟨c, fun n z => ⟨(fun q e => by cases e), k, hk, comp, hkind⟩, hn⟩
theorem st_arrO {args : Array Value} {C : String} (h : (Cond.arrayOver (.object C)).before args s = true) : ∃ c, ArrOfT s c (.object C) ∧ va_RA s c (.object C) := by
  obtain ⟨comp, c, k, hc, hi, hk, hkind, hn⟩ := Cond.arrayOver_spec (args := args) (first := s) (o := none) (s := s) (idx := []) h
  exact ⟨c, fun n z => ⟨(fun q e => by cases e), k, hk, comp, hkind⟩, k, comp, hk, hkind, hc, hn⟩
theorem st_nw (hts : ∀ w ∈ lw_tbl, w.before #[Value.ref b] s = true) : zNw s := by
  intro w hw
  obtain ⟨h1, h2⟩ := List.mem_filter.mp hw
  have h3 := hts w h1
  cases w <;> first | exact va_Nw.of rfl h3 | exact h3 | cases h2
theorem st_K {args : Array Value} (hts : ∀ w ∈ zTb, w.before args s = true) (hw : zNw s) : ∃ D tc, va_K D zCl (zTys tc) s := by
  obtain ⟨c0, i0, k0⟩ := u_known (C := RX0) (T := TX0) (N := 4) (n := 4) hts zu_0 (hts _ zin_0)
  obtain ⟨c1, i1, k1⟩ := u_known (C := RX1) (T := TX1) (N := 11) (n := 11) hts zu_1 (hts _ zin_1)
  obtain ⟨c2, i2, k2⟩ := u_known (C := RX2) (T := TX2) (N := 6) (n := 6) hts zu_2 (hts _ zin_2)
  obtain ⟨c3, i3, k3⟩ := u_known (C := RX3) (T := TX3) (N := 6) (n := 6) hts zu_3 (hts _ zin_3)
  obtain ⟨c4, i4, k4⟩ := u_known (C := RX4) (T := TX4) (N := 11) (n := 11) hts zu_4 (hts _ zin_4)
  obtain ⟨c5, i5, k5⟩ := u_known (C := RX5) (T := TX5) (N := 11) (n := 11) hts zu_5 (hts _ zin_5)
  obtain ⟨c6, i6, k6⟩ := u_known (C := RX6) (T := TX6) (N := 6) (n := 6) hts zu_6 (hts _ zin_6)
  obtain ⟨c7, i7, k7⟩ := u_known (C := RX7) (T := TX7) (N := 15) (n := 15) hts zu_7 (hts _ zin_7)
  obtain ⟨c8, i8, k8⟩ := u_known (C := RX8) (T := TX8) (N := 15) (n := 15) hts zu_8 (hts _ znL_15)
  obtain ⟨c9, i9, k9⟩ := u_known (C := RX9) (T := TX9) (N := 46) (n := 46) hts zu_9 (hts _ znL_46)
  obtain ⟨t0, a0, f0⟩ := st_arr (hts _ zai)
  obtain ⟨t1, a1, f1⟩ := st_arr (hts _ zaz)
  obtain ⟨t2, a2, f2⟩ := st_arrA (args := #[]) (hw _ zov0)
  obtain ⟨t3, a3, f3⟩ := st_arrA (args := #[]) (hw _ zov1)
  obtain ⟨t4, a4, f4⟩ := st_arrO (args := #[]) (hw _ zovS)
  obtain ⟨t5, a5, f5⟩ := st_arr (hts _ zal)
  refine ⟨(fun k => match k with | 0 => c0 | 1 => c1 | 2 => c2 | 3 => c3 | 4 => c4 | 5 => c5 | 6 => c6 | 7 => c7 | 8 => c8 | _ => c9, fun k => match k with | 0 => i0 | 1 => i1 | 2 => i2 | 3 => i3 | 4 => i4 | 5 => i5 | 6 => i6 | 7 => i7 | 8 => i8 | _ => i9), fun k => match k with | 0 => t0 | 1 => t1 | 2 => t2 | 3 => t3 | 4 => t4 | _ => t5, ⟨fun c q hq => ?_, fun k q hk => ?_⟩⟩
  · match c, hq with
    | 0, hq => cases hq; exact k0
    | 1, hq => cases hq; exact k1
    | 2, hq => cases hq; exact k2
    | 3, hq => cases hq; exact k3
    | 4, hq => cases hq; exact k4
    | 5, hq => cases hq; exact k5
    | 6, hq => cases hq; exact k6
    | 7, hq => cases hq; exact k7
    | 8, hq => cases hq; exact k8
    | 9, hq => cases hq; exact k9
    | c + 10, hq => cases hq
  · match k, hk with
    | 0, hk => cases hk; exact ⟨a0, f0⟩
    | 1, hk => cases hk; exact ⟨a1, f1⟩
    | 2, hk => cases hk; exact ⟨a2, f2⟩
    | 3, hk => cases hk; exact ⟨a3, f3⟩
    | 4, hk => cases hk; exact ⟨a4, f4⟩
    | 5, hk => cases hk; exact ⟨a5, f5⟩
    | k + 6, hk => cases hk
theorem st_S {args : Array Value} (hs : ∀ c ∈ zNar, c.before args s = true) (hA : ∀ a : Nat, a < s.heap.size → ¬ A a) : ∃ adK adV : Nat → Nat, vk_S 8 zStrLen zStrByt adK adV A s s.heap ∧ ∀ i : Nat, i < 8 → (zTm i).eval args s none [] s = some (.ref (adK i)) := by
  have hN : ∀ i, i < 8 → zStrLen.getD i 0 < 2 ^ 31 ∧ 2 ≤ zStrLen.getD i 0 := by decide +kernel
  have h0 : ∀ i : Nat, ∃ q : Nat × Nat, i < 8 → (zTm i).eval args s none [] s = some (.ref q.1) ∧ va_O "java/lang/String" q.1 A s s.heap ∧ va_OF "java/lang/String" "coder" "B" (.int 0) q.1 A s s.heap ∧ va_OF "java/lang/String" "value" "[B" (.ref q.2) q.1 A s s.heap ∧ va_T .byte q.2 (zStrLen.getD i 0) (fun j => .int ((zStrByt.getD i []).getD j 0)) A s s.heap := by
    intro i
    by_cases hi : i < 8
    · obtain ⟨a, c, cA, kA, q1, q2, q3, q4, q5, q6, -⟩ := Cond.exactly_spec (args := args) (first := s) (o := none) (s := s) (idx := []) (t := zTm i) (cls := "java/lang/String") (hs _ (nr_ex i (by omega)))
      obtain ⟨t, ht, hT⟩ := va_Tof (f := fun j => .int ((zStrByt.getD i []).getD j 0)) (A := A) (hN i hi).1 (hs _ (nr_ar i hi)) (va_eqt (hs _ (nr_le i hi))) (fun j hj => va_eqt (hs _ (nr_el i hi j hj))) hA
      exact ⟨(a, t), fun _ => ⟨q1, ⟨cA, q3, q5, by rw [q6]; exact q2, hA a (Array.getElem?_eq_some_iff.mp q3).1⟩, vk_OFof q1 (va_eqt (hs _ (nr_co i hi))) hA, vk_OFof q1 ht hA, hT⟩⟩
    · exact ⟨(0, 0), fun h => absurd h hi⟩
  obtain ⟨ad, had⟩ := Classical.axiomOfChoice h0
  refine ⟨fun i => (ad i).1, fun i => (ad i).2, ⟨fun i hi => (had i hi).2, fun i j hi hj e => ?_⟩, fun i hi => (had i hi).1⟩
  have key : ∀ i, i < 8 → ∀ j, j < 8 → (zStrByt.getD i []).getD 0 0 = (zStrByt.getD j []).getD 0 0 → (zStrByt.getD i []).getD 1 0 = (zStrByt.getD j []).getD 1 0 → i = j := by decide +kernel
  obtain ⟨-, -, -, ⟨cf, k, fi, f, cell, h1, h2, h3, h4, h5, h6⟩, ⟨ci, g1, g2, g3, g4, g5, g6, g7⟩⟩ := had i hi
  obtain ⟨-, -, -, ⟨cf', k', fi', f', cell', h1', h2', h3', h4', h5', h6'⟩, ⟨ci', g1', g2', g3', g4', g5', g6', g7'⟩⟩ := had j hj
  have e : (ad i).1 = (ad j).1 := e
  rw [h1] at h1'
  cases h1'
  rw [e, h3'] at h3
  cases h3
  rw [h5] at h5'
  have e2 : (ad i).2 = (ad j).2 := by
    have h9 : Value.ref (ad i).2 = Value.ref (ad j).2 := Option.some.inj h5'
    rw [zrefEq] at h9
    exact h9
  rw [e2, g1'] at g1
  cases g1
  have hi2 := (hN i hi).2
  have hj2 := (hN j hj).2
  refine key i hi j hj ?_ ?_
  · have h9 := (g6 0 (by omega)).symm.trans (g6' 0 (by omega))
    injection h9 with h9
    injection h9
  · have h9 := (g6 1 (by omega)).symm.trans (g6' 1 (by omega))
    injection h9 with h9
    injection h9
theorem st_Nc {args : Array Value} (hs : ∀ c ∈ zNar, c.before args s = true) : zNc s := by
  intro a ha b hb hab
  simp only [zXs, List.mem_cons, List.not_mem_nil, or_false] at ha hb
  rcases ha with rfl | rfl | rfl | rfl
  · rcases hb with rfl | rfl | rfl | rfl
    · exact absurd rfl hab
    · exact va_Nc.of (hs _ (List.mem_of_getElem? (i := 242) (by decide +kernel)))
    · exact va_Nc.of (hs _ (List.mem_of_getElem? (i := 258) (by decide +kernel)))
    · exact va_Nc.of (hs _ (List.mem_of_getElem? (i := 273) (by decide +kernel)))
  · rcases hb with rfl | rfl | rfl | rfl
    · exact va_Nc.of (hs _ (List.mem_of_getElem? (i := 226) (by decide +kernel)))
    · exact absurd rfl hab
    · exact va_Nc.of (hs _ (List.mem_of_getElem? (i := 259) (by decide +kernel)))
    · exact va_Nc.of (hs _ (List.mem_of_getElem? (i := 274) (by decide +kernel)))
  · rcases hb with rfl | rfl | rfl | rfl
    · exact va_Nc.of (hs _ (List.mem_of_getElem? (i := 227) (by decide +kernel)))
    · exact va_Nc.of (hs _ (List.mem_of_getElem? (i := 243) (by decide +kernel)))
    · exact absurd rfl hab
    · exact va_Nc.of (hs _ (List.mem_of_getElem? (i := 275) (by decide +kernel)))
  · rcases hb with rfl | rfl | rfl | rfl
    · exact va_Nc.of (hs _ (List.mem_of_getElem? (i := 228) (by decide +kernel)))
    · exact va_Nc.of (hs _ (List.mem_of_getElem? (i := 244) (by decide +kernel)))
    · exact va_Nc.of (hs _ (List.mem_of_getElem? (i := 260) (by decide +kernel)))
    · exact absurd rfl hab
theorem st_R (hts : ∀ w ∈ lw_tbl, w.before #[Value.ref b] s = true) {ad : Nat → Nat} (h : ∀ i : Nat, i < 21 → (zTm i).eval #[Value.ref b] s none [] s = some (.ref (ad i))) : ∀ (i : Nat) (q : String × Nat × String), zStrs[i]? = some q → vk_R q.1 q.2.1 q.2.2 (ad i) s := by
  intro i q hq
  match i, hq with
  | 0, hq => cases hq; exact vk_R.of (hts _ (zm_4 (List.mem_of_getElem? (i := 140) (by decide +kernel)))) (h 0 (by decide))
  | 1, hq => cases hq; exact vk_R.of (hts _ (zm_4 (List.mem_of_getElem? (i := 170) (by decide +kernel)))) (h 1 (by decide))
  | 2, hq => cases hq; exact vk_R.of (hts _ (zm_4 (List.mem_of_getElem? (i := 171) (by decide +kernel)))) (h 2 (by decide))
  | 3, hq => cases hq; exact vk_R.of (hts _ (zm_4 (List.mem_of_getElem? (i := 172) (by decide +kernel)))) (h 3 (by decide))
  | 4, hq => cases hq; exact vk_R.of (hts _ (zm_4 (List.mem_of_getElem? (i := 173) (by decide +kernel)))) (h 4 (by decide))
  | 5, hq => cases hq; exact vk_R.of (hts _ (zm_4 (List.mem_of_getElem? (i := 174) (by decide +kernel)))) (h 5 (by decide))
  | 6, hq => cases hq; exact vk_R.of (hts _ (zm_4 (List.mem_of_getElem? (i := 175) (by decide +kernel)))) (h 6 (by decide))
  | 7, hq => cases hq; exact vk_R.of (hts _ (zm_4 (List.mem_of_getElem? (i := 176) (by decide +kernel)))) (h 7 (by decide))
  | 8, hq => cases hq; exact vk_R.of (hts _ (zm_4 (List.mem_of_getElem? (i := 116) (by decide +kernel)))) (h 8 (by decide))
  | 9, hq => cases hq; exact vk_R.of (hts _ (zm_5 (List.mem_of_getElem? (i := 24) (by decide +kernel)))) (h 9 (by decide))
  | 10, hq => cases hq; exact vk_R.of (hts _ (zm_5 (List.mem_of_getElem? (i := 160) (by decide +kernel)))) (h 10 (by decide))
  | 11, hq => cases hq; exact vk_R.of (hts _ (zm_5 (List.mem_of_getElem? (i := 175) (by decide +kernel)))) (h 11 (by decide))
  | 12, hq => cases hq; exact vk_R.of (hts _ (zm_6 (List.mem_of_getElem? (i := 55) (by decide +kernel)))) (h 12 (by decide))
  | 13, hq => cases hq; exact vk_R.of (hts _ (zm_6 (List.mem_of_getElem? (i := 211) (by decide +kernel)))) (h 13 (by decide))
  | 14, hq => cases hq; exact vk_R.of (hts _ (zm_5 (List.mem_of_getElem? (i := 50) (by decide +kernel)))) (h 14 (by decide))
  | 15, hq => cases hq; exact vk_R.of (hts _ (zm_5 (List.mem_of_getElem? (i := 94) (by decide +kernel)))) (h 15 (by decide))
  | 16, hq => cases hq; exact vk_R.of (hts _ (zm_5 (List.mem_of_getElem? (i := 61) (by decide +kernel)))) (h 16 (by decide))
  | 17, hq => cases hq; exact vk_R.of (hts _ (zm_5 (List.mem_of_getElem? (i := 110) (by decide +kernel)))) (h 17 (by decide))
  | 18, hq => cases hq; exact vk_R.of (hts _ (zm_6 (List.mem_of_getElem? (i := 139) (by decide +kernel)))) (h 18 (by decide))
  | 19, hq => cases hq; exact vk_R.of (hts _ (zm_6 (List.mem_of_getElem? (i := 134) (by decide +kernel)))) (h 19 (by decide))
  | 20, hq => cases hq; exact vk_R.of (hts _ (zm_7 (List.mem_of_getElem? (i := 98) (by decide +kernel)))) (h 20 (by decide))
  | i + 21, hq => cases hq
theorem st_G (hts : ∀ w ∈ lw_tbl, w.before #[Value.ref b] s = true) (hs : ∀ c ∈ zNar, c.before #[Value.ref b] s = true) (hA : ∀ a : Nat, a < s.heap.size → ¬ A a) : ∃ adK adV : Nat → Nat, zG adK adV A s s.heap ∧ adK 5000000 = b := by
  obtain ⟨k0, v0, hS, he⟩ := st_S hs hA
  have h0 : ∀ i : Nat, ∃ a : Nat, i < 21 → (zTm i).eval #[Value.ref b] s none [] s = some (.ref a) := by
    intro i
    by_cases hi : i < 21
    · obtain ⟨a, c, cA, kA, q1, -⟩ := Cond.exactly_spec (args := #[Value.ref b]) (first := s) (o := none) (s := s) (idx := []) (t := zTm i) (cls := "java/lang/String") (hs _ (nr_ex i hi))
      exact ⟨a, fun _ => q1⟩
    · exact ⟨0, fun h => absurd h hi⟩
  obtain ⟨ak, hak⟩ := Classical.axiomOfChoice h0
  obtain ⟨K, hK⟩ : ∃ K : Nat → Nat, K = fun i => if i < 8 then k0 i else if i < 21 then ak i else if i = 5000000 then b else v0 (i - 1000000) := ⟨_, rfl⟩
  have e1 : ∀ i, i < 8 → K i = k0 i := fun i hi => by rw [hK]; show (if i < 8 then _ else _) = _; rw [if_pos hi]
  have e2 : ∀ i, i < 8 → K (1000000 + i) = v0 i := fun i hi => by rw [hK]; show (if 1000000 + i < 8 then _ else if 1000000 + i < 21 then _ else if 1000000 + i = 5000000 then _ else _) = _; rw [if_neg (by omega), if_neg (by omega), if_neg (by omega), Nat.add_sub_cancel_left]
  have e3 : ∀ i, i < 21 → (zTm i).eval #[Value.ref b] s none [] s = some (.ref (K i)) := fun i hi => by
    by_cases h8 : i < 8
    · rw [e1 i h8]; exact he i h8
    · have e4 : K i = ak i := by rw [hK]; show (if i < 8 then _ else if i < 21 then _ else _) = _; rw [if_neg h8, if_pos hi]
      rw [e4]; exact hak i hi
  have e5 : K 5000000 = b := by rw [hK]; rfl
  refine ⟨K, fun i => K (1000000 + i), ⟨?_, ?_, ⟨fun i hi => ?_, fun i j hi hj e => ?_⟩, st_R hts e3, st_nw hts, ?_, ?_, fun _ => rfl, st_Nc hs⟩, e5⟩
  · exact vx_Zqof (hts _ (zm_2 (List.mem_of_getElem? (i := 214) (by decide +kernel)))) (hts _ (zm_1 (List.mem_of_getElem? (i := 10) (by decide +kernel)))) (hs _ (List.mem_of_getElem? (i := 4) (by decide +kernel))) hA
  · exact vx_Zqof (hts _ (zm_2 (List.mem_of_getElem? (i := 216) (by decide +kernel)))) (hts _ (zm_1 (List.mem_of_getElem? (i := 10) (by decide +kernel)))) (hs _ (List.mem_of_getElem? (i := 5) (by decide +kernel))) hA
  · show va_O _ (K i) A s s.heap ∧ va_OF _ _ _ _ (K i) A s s.heap ∧ va_OF _ _ _ (.ref (K (1000000 + i))) (K i) A s s.heap ∧ va_T _ (K (1000000 + i)) _ _ A s s.heap
    rw [e1 i hi, e2 i hi]
    exact hS.1 i hi
  · rw [e1 i hi, e1 j hj] at e
    exact hS.2 i j hi hj e
  · exact va_Zof (hts _ (zm_3 (List.mem_of_getElem? (i := 0) (by decide +kernel)))) (hts _ (zm_1 (List.mem_of_getElem? (i := 16) (by decide +kernel)))) (va_eqi (hs _ (List.mem_of_getElem? (i := 6) (by decide +kernel)))) hA
  · exact va_Zqof (hts _ (zm_3 (List.mem_of_getElem? (i := 85) (by decide +kernel)))) (hts _ (zm_1 (List.mem_of_getElem? (i := 18) (by decide +kernel)))) (hs _ (List.mem_of_getElem? (i := 7) (by decide +kernel))) hA
end ZST
