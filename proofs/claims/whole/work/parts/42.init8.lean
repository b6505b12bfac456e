theorem dX8_init_0 : decode cX8_init 0 = .ok (.aload_n 0, 1) := by decide +kernel
theorem dX8_init_1 : decode cX8_init 1 = .ok (.invokespecial 1, 3) := by decide +kernel
theorem dX8_init_4 : decode cX8_init 4 = .ok (.aload_n 0, 1) := by decide +kernel
theorem dX8_init_5 : decode cX8_init 5 = .ok (.sipush 500, 3) := by decide +kernel
theorem dX8_init_8 : decode cX8_init 8 = .ok (.newarray .int, 2) := by decide +kernel
theorem dX8_init_10 : decode cX8_init 10 = .ok (.putfield 9, 3) := by decide +kernel
theorem dX8_init_13 : decode cX8_init 13 = .ok (.aload_n 0, 1) := by decide +kernel
theorem dX8_init_14 : decode cX8_init 14 = .ok (.iconst 0, 1) := by decide +kernel
theorem dX8_init_15 : decode cX8_init 15 = .ok (.putfield 13, 3) := by decide +kernel
theorem dX8_init_18 : decode cX8_init 18 = .ok (.aload_n 0, 1) := by decide +kernel
theorem dX8_init_19 : decode cX8_init 19 = .ok (.iconst (-1), 1) := by decide +kernel
theorem dX8_init_20 : decode cX8_init 20 = .ok (.putfield 17, 3) := by decide +kernel
theorem dX8_init_23 : decode cX8_init 23 = .ok (.aload_n 0, 1) := by decide +kernel
theorem dX8_init_24 : decode cX8_init 24 = .ok (.new 20, 3) := by decide +kernel
theorem dX8_init_27 : decode cX8_init 27 = .ok (.dup, 1) := by decide +kernel
theorem dX8_init_28 : decode cX8_init 28 = .ok (.invokespecial 22, 3) := by decide +kernel
theorem dX8_init_31 : decode cX8_init 31 = .ok (.putfield 23, 3) := by decide +kernel
theorem dX8_init_34 : decode cX8_init 34 = .ok (.aload_n 0, 1) := by decide +kernel
theorem dX8_init_35 : decode cX8_init 35 = .ok (.new 20, 3) := by decide +kernel
theorem dX8_init_38 : decode cX8_init 38 = .ok (.dup, 1) := by decide +kernel
theorem dX8_init_39 : decode cX8_init 39 = .ok (.invokespecial 22, 3) := by decide +kernel
theorem dX8_init_42 : decode cX8_init 42 = .ok (.putfield 27, 3) := by decide +kernel
theorem dX8_init_45 : decode cX8_init 45 = .ok (.aload_n 0, 1) := by decide +kernel
theorem dX8_init_46 : decode cX8_init 46 = .ok (.new 30, 3) := by decide +kernel
theorem dX8_init_49 : decode cX8_init 49 = .ok (.dup, 1) := by decide +kernel
theorem dX8_init_50 : decode cX8_init 50 = .ok (.aload_n 0, 1) := by decide +kernel
theorem dX8_init_51 : decode cX8_init 51 = .ok (.getfield 9, 3) := by decide +kernel
theorem dX8_init_54 : decode cX8_init 54 = .ok (.aload_n 0, 1) := by decide +kernel
theorem dX8_init_55 : decode cX8_init 55 = .ok (.getfield 27, 3) := by decide +kernel
theorem dX8_init_58 : decode cX8_init 58 = .ok (.invokespecial 32, 3) := by decide +kernel
theorem dX8_init_61 : decode cX8_init 61 = .ok (.putfield 35, 3) := by decide +kernel
theorem dX8_init_64 : decode cX8_init 64 = .ok (.aload_n 0, 1) := by decide +kernel
theorem dX8_init_65 : decode cX8_init 65 = .ok (.new 39, 3) := by decide +kernel
theorem dX8_init_68 : decode cX8_init 68 = .ok (.dup, 1) := by decide +kernel
theorem dX8_init_69 : decode cX8_init 69 = .ok (.aload_n 0, 1) := by decide +kernel
theorem dX8_init_70 : decode cX8_init 70 = .ok (.getfield 23, 3) := by decide +kernel
theorem dX8_init_73 : decode cX8_init 73 = .ok (.invokespecial 41, 3) := by decide +kernel
theorem dX8_init_76 : decode cX8_init 76 = .ok (.putfield 44, 3) := by decide +kernel
theorem dX8_init_79 : decode cX8_init 79 = .ok (.aload_n 0, 1) := by decide +kernel
theorem dX8_init_80 : decode cX8_init 80 = .ok (.new 39, 3) := by decide +kernel
theorem dX8_init_83 : decode cX8_init 83 = .ok (.dup, 1) := by decide +kernel
theorem dX8_init_84 : decode cX8_init 84 = .ok (.aload_n 0, 1) := by decide +kernel
theorem dX8_init_85 : decode cX8_init 85 = .ok (.getfield 23, 3) := by decide +kernel
theorem dX8_init_88 : decode cX8_init 88 = .ok (.invokespecial 41, 3) := by decide +kernel
theorem dX8_init_91 : decode cX8_init 91 = .ok (.putfield 48, 3) := by decide +kernel
theorem dX8_init_94 : decode cX8_init 94 = .ok (.aload_n 0, 1) := by decide +kernel
theorem dX8_init_95 : decode cX8_init 95 = .ok (.iconst 3, 1) := by decide +kernel
theorem dX8_init_96 : decode cX8_init 96 = .ok (.anewarray 39, 3) := by decide +kernel
theorem dX8_init_99 : decode cX8_init 99 = .ok (.dup, 1) := by decide +kernel
theorem dX8_init_100 : decode cX8_init 100 = .ok (.iconst 0, 1) := by decide +kernel
theorem dX8_init_101 : decode cX8_init 101 = .ok (.new 39, 3) := by decide +kernel
theorem dX8_init_104 : decode cX8_init 104 = .ok (.dup, 1) := by decide +kernel
theorem dX8_init_105 : decode cX8_init 105 = .ok (.aload_n 0, 1) := by decide +kernel
theorem dX8_init_106 : decode cX8_init 106 = .ok (.getfield 23, 3) := by decide +kernel
theorem dX8_init_109 : decode cX8_init 109 = .ok (.invokespecial 41, 3) := by decide +kernel
theorem dX8_init_112 : decode cX8_init 112 = .ok (.aastore, 1) := by decide +kernel
theorem dX8_init_113 : decode cX8_init 113 = .ok (.dup, 1) := by decide +kernel
theorem dX8_init_114 : decode cX8_init 114 = .ok (.iconst 1, 1) := by decide +kernel
theorem dX8_init_115 : decode cX8_init 115 = .ok (.new 39, 3) := by decide +kernel
theorem dX8_init_118 : decode cX8_init 118 = .ok (.dup, 1) := by decide +kernel
theorem dX8_init_119 : decode cX8_init 119 = .ok (.aload_n 0, 1) := by decide +kernel
theorem dX8_init_120 : decode cX8_init 120 = .ok (.getfield 23, 3) := by decide +kernel
theorem dX8_init_123 : decode cX8_init 123 = .ok (.invokespecial 41, 3) := by decide +kernel
theorem dX8_init_126 : decode cX8_init 126 = .ok (.aastore, 1) := by decide +kernel
theorem dX8_init_127 : decode cX8_init 127 = .ok (.dup, 1) := by decide +kernel
theorem dX8_init_128 : decode cX8_init 128 = .ok (.iconst 2, 1) := by decide +kernel
theorem dX8_init_129 : decode cX8_init 129 = .ok (.new 39, 3) := by decide +kernel
theorem dX8_init_132 : decode cX8_init 132 = .ok (.dup, 1) := by decide +kernel
theorem dX8_init_133 : decode cX8_init 133 = .ok (.aload_n 0, 1) := by decide +kernel
theorem dX8_init_134 : decode cX8_init 134 = .ok (.getfield 23, 3) := by decide +kernel
theorem dX8_init_137 : decode cX8_init 137 = .ok (.invokespecial 41, 3) := by decide +kernel
theorem dX8_init_140 : decode cX8_init 140 = .ok (.aastore, 1) := by decide +kernel
theorem dX8_init_141 : decode cX8_init 141 = .ok (.putfield 51, 3) := by decide +kernel
theorem dX8_init_144 : decode cX8_init 144 = .ok (.aload_n 0, 1) := by decide +kernel
theorem dX8_init_145 : decode cX8_init 145 = .ok (.iconst 0, 1) := by decide +kernel
theorem dX8_init_146 : decode cX8_init 146 = .ok (.putfield 55, 3) := by decide +kernel
theorem dX8_init_149 : decode cX8_init 149 = .ok (.aload_n 0, 1) := by decide +kernel
theorem dX8_init_150 : decode cX8_init 150 = .ok (.new 58, 3) := by decide +kernel
theorem dX8_init_153 : decode cX8_init 153 = .ok (.dup, 1) := by decide +kernel
theorem dX8_init_154 : decode cX8_init 154 = .ok (.aload_n 0, 1) := by decide +kernel
theorem dX8_init_155 : decode cX8_init 155 = .ok (.getfield 23, 3) := by decide +kernel
theorem dX8_init_158 : decode cX8_init 158 = .ok (.invokespecial 60, 3) := by decide +kernel
theorem dX8_init_161 : decode cX8_init 161 = .ok (.putfield 61, 3) := by decide +kernel
theorem dX8_init_164 : decode cX8_init 164 = .ok (.aload_n 0, 1) := by decide +kernel
theorem dX8_init_165 : decode cX8_init 165 = .ok (.new 65, 3) := by decide +kernel
theorem dX8_init_168 : decode cX8_init 168 = .ok (.dup, 1) := by decide +kernel
theorem dX8_init_169 : decode cX8_init 169 = .ok (.aload_n 0, 1) := by decide +kernel
theorem dX8_init_170 : decode cX8_init 170 = .ok (.getfield 23, 3) := by decide +kernel
theorem dX8_init_173 : decode cX8_init 173 = .ok (.invokespecial 67, 3) := by decide +kernel
theorem dX8_init_176 : decode cX8_init 176 = .ok (.putfield 68, 3) := by decide +kernel
theorem dX8_init_179 : decode cX8_init 179 = .ok (.aload_n 0, 1) := by decide +kernel
theorem dX8_init_180 : decode cX8_init 180 = .ok (.new 72, 3) := by decide +kernel
theorem dX8_init_183 : decode cX8_init 183 = .ok (.dup, 1) := by decide +kernel
theorem dX8_init_184 : decode cX8_init 184 = .ok (.aload_n 0, 1) := by decide +kernel
theorem dX8_init_185 : decode cX8_init 185 = .ok (.getfield 23, 3) := by decide +kernel
theorem dX8_init_188 : decode cX8_init 188 = .ok (.aload_n 0, 1) := by decide +kernel
theorem dX8_init_189 : decode cX8_init 189 = .ok (.getfield 48, 3) := by decide +kernel
theorem dX8_init_192 : decode cX8_init 192 = .ok (.invokespecial 74, 3) := by decide +kernel
theorem dX8_init_195 : decode cX8_init 195 = .ok (.putfield 77, 3) := by decide +kernel
theorem dX8_init_198 : decode cX8_init 198 = .ok (.aload_n 0, 1) := by decide +kernel
theorem dX8_init_199 : decode cX8_init 199 = .ok (.new 81, 3) := by decide +kernel
theorem dX8_init_202 : decode cX8_init 202 = .ok (.dup, 1) := by decide +kernel
theorem dX8_init_203 : decode cX8_init 203 = .ok (.aload_n 0, 1) := by decide +kernel
theorem dX8_init_204 : decode cX8_init 204 = .ok (.getfield 23, 3) := by decide +kernel
theorem dX8_init_207 : decode cX8_init 207 = .ok (.invokespecial 83, 3) := by decide +kernel
theorem dX8_init_210 : decode cX8_init 210 = .ok (.putfield 84, 3) := by decide +kernel
theorem dX8_init_213 : decode cX8_init 213 = .ok (.aload_n 0, 1) := by decide +kernel
theorem dX8_init_214 : decode cX8_init 214 = .ok (.aconst_null, 1) := by decide +kernel
theorem dX8_init_215 : decode cX8_init 215 = .ok (.putfield 88, 3) := by decide +kernel
theorem dX8_init_218 : decode cX8_init 218 = .ok (.return_, 1) := by decide +kernel
def cS8 (k n : Nat) (S : Nat → zSh) : Nat → zSh := (zupS (cS6 (n + 57) (n + 58) (n + 1) (zupS (zupS (cS4 (n + 56) (n + 57) (n + 1) (n + 27) (zupS (zupS (cS0 (n + 53) (n + 54) (n + 1) (zupS (zupS (cS2 (n + 48) (n + 49) (n + 1) (zupS (zupS (zupS (cS5 (n + 43) (n + 44) (n + 1) (zupS (zupS (cS5 (n + 38) (n + 39) (n + 1) (zupS (zupS (cS5 (n + 33) (n + 34) (n + 1) (zupS (zupS (zupS (cS5 (n + 27) (n + 28) (n + 1) (zupS (zupS (cS5 (n + 22) (n + 23) (n + 1) (zupS (zupS (cS3 (n + 21) (n + 22) n (n + 11) (zupS (zupS (cS7 (n + 11) (n + 12) (zupS (zupS (cS7 (n + 1) (n + 2) (zupS (zupS (zupS S n (1, 0, 500, zn)) k (0, 8, 0, (fun i => if i = 0 then some n else zn i))) (n + 1) (0, 7, 0, zn))) k (0, 8, 0, (fun i => if i = 3 then some (n + 1) else (fun i => if i = 0 then some n else zn i) i))) (n + 11) (0, 7, 0, zn))) k (0, 8, 0, (fun i => if i = 4 then some (n + 11) else (fun i => if i = 3 then some (n + 1) else (fun i => if i = 0 then some n else zn i) i) i))) (n + 21) (0, 3, 0, zn))) k (0, 8, 0, (fun i => if i = 5 then some (n + 21) else (fun i => if i = 4 then some (n + 11) else (fun i => if i = 3 then some (n + 1) else (fun i => if i = 0 then some n else zn i) i) i) i))) (n + 22) (0, 5, 0, zn))) k (0, 8, 0, (fun i => if i = 6 then some (n + 22) else (fun i => if i = 5 then some (n + 21) else (fun i => if i = 4 then some (n + 11) else (fun i => if i = 3 then some (n + 1) else (fun i => if i = 0 then some n else zn i) i) i) i) i))) (n + 27) (0, 5, 0, zn))) k (0, 8, 0, (fun i => if i = 7 then some (n + 27) else (fun i => if i = 6 then some (n + 22) else (fun i => if i = 5 then some (n + 21) else (fun i => if i = 4 then some (n + 11) else (fun i => if i = 3 then some (n + 1) else (fun i => if i = 0 then some n else zn i) i) i) i) i) i))) (n + 32) (2, 4, 3, zn)) (n + 33) (0, 5, 0, zn))) (n + 32) (2, 4, 3, (fun j => if j = (0 : Int32).toNatClampNeg then some (n + 33) else zn j))) (n + 38) (0, 5, 0, zn))) (n + 32) (2, 4, 3, (fun j => if j = (1 : Int32).toNatClampNeg then some (n + 38) else (fun j => if j = (0 : Int32).toNatClampNeg then some (n + 33) else zn j) j))) (n + 43) (0, 5, 0, zn))) (n + 32) (2, 4, 3, (fun j => if j = (2 : Int32).toNatClampNeg then some (n + 43) else (fun j => if j = (1 : Int32).toNatClampNeg then some (n + 38) else (fun j => if j = (0 : Int32).toNatClampNeg then some (n + 33) else zn j) j) j))) k (0, 8, 0, (fun i => if i = 8 then some (n + 32) else (fun i => if i = 7 then some (n + 27) else (fun i => if i = 6 then some (n + 22) else (fun i => if i = 5 then some (n + 21) else (fun i => if i = 4 then some (n + 11) else (fun i => if i = 3 then some (n + 1) else (fun i => if i = 0 then some n else zn i) i) i) i) i) i) i))) (n + 48) (0, 2, 0, zn))) k (0, 8, 0, (fun i => if i = 10 then some (n + 48) else (fun i => if i = 8 then some (n + 32) else (fun i => if i = 7 then some (n + 27) else (fun i => if i = 6 then some (n + 22) else (fun i => if i = 5 then some (n + 21) else (fun i => if i = 4 then some (n + 11) else (fun i => if i = 3 then some (n + 1) else (fun i => if i = 0 then some n else zn i) i) i) i) i) i) i) i))) (n + 53) (0, 0, 0, zn))) k (0, 8, 0, (fun i => if i = 11 then some (n + 53) else (fun i => if i = 10 then some (n + 48) else (fun i => if i = 8 then some (n + 32) else (fun i => if i = 7 then some (n + 27) else (fun i => if i = 6 then some (n + 22) else (fun i => if i = 5 then some (n + 21) else (fun i => if i = 4 then some (n + 11) else (fun i => if i = 3 then some (n + 1) else (fun i => if i = 0 then some n else zn i) i) i) i) i) i) i) i) i))) (n + 56) (0, 4, 0, zn))) k (0, 8, 0, (fun i => if i = 12 then some (n + 56) else (fun i => if i = 11 then some (n + 53) else (fun i => if i = 10 then some (n + 48) else (fun i => if i = 8 then some (n + 32) else (fun i => if i = 7 then some (n + 27) else (fun i => if i = 6 then some (n + 22) else (fun i => if i = 5 then some (n + 21) else (fun i => if i = 4 then some (n + 11) else (fun i => if i = 3 then some (n + 1) else (fun i => if i = 0 then some n else zn i) i) i) i) i) i) i) i) i) i))) (n + 57) (0, 6, 0, zn))) k (0, 8, 0, (fun i => if i = 13 then some (n + 57) else (fun i => if i = 12 then some (n + 56) else (fun i => if i = 11 then some (n + 53) else (fun i => if i = 10 then some (n + 48) else (fun i => if i = 8 then some (n + 32) else (fun i => if i = 7 then some (n + 27) else (fun i => if i = 6 then some (n + 22) else (fun i => if i = 5 then some (n + 21) else (fun i => if i = 4 then some (n + 11) else (fun i => if i = 3 then some (n + 1) else (fun i => if i = 0 then some n else zn i) i) i) i) i) i) i) i) i) i) i)))
def cM8 (k n : Nat) (μ : zMem) : zMem := (cM6 (n + 57) (n + 58) (zup (cM4 (n + 56) (n + 57) (zup (cM0 (n + 53) (n + 54) (zup (cM2 (n + 48) (n + 49) (zup (zset (cM5 (n + 43) (n + 44) (zup (cM5 (n + 38) (n + 39) (zup (cM5 (n + 33) (n + 34) (zup (zup (cM5 (n + 27) (n + 28) (zup (cM5 (n + 22) (n + 23) (zup (cM3 (n + 21) (n + 22) (zup (cM7 (n + 11) (n + 12) (zup (cM7 (n + 1) (n + 2) (zup (zset (zset (zup μ n (fun _ => 0)) k 1 (0 : Int32)) k 2 (-1 : Int32)) (n + 1) (fun _ => 0))) (n + 11) (fun _ => 0))) (n + 21) (fun _ => 0))) (n + 22) (fun _ => 0))) (n + 27) (fun _ => 0))) (n + 32) (fun _ => 0)) (n + 33) (fun _ => 0))) (n + 38) (fun _ => 0))) (n + 43) (fun _ => 0))) k 9 (0 : Int32)) (n + 48) (fun _ => 0))) (n + 53) (fun _ => 0))) (n + 56) (fun _ => 0))) (n + 57) (fun _ => 0)))
set_option maxHeartbeats 4000000 in
theorem tc8 {k n : Nat} {S : Nat → zSh} {μ : zMem} (hwf : zWf n S) (hb : k < n) (hs : S k = (0, 8, 0, zn)) (hn : n + 68 ≤ 1000000) : zM yX8_init cX8_init 1 none 4 [.ref k] n S μ (.inl none, n + 68, cS8 k n S, cM8 k n μ, 68, 2607) := by
  refine zM_of (by decide +kernel) (by simp [Value.category]) (by simp) (Nat.le_of_ble_eq_true rfl) ?_
  show zAW _ _ _ _ _ _ [.ref k] _ _ _ _ _
  unfold cS8 cM8
  refine zA_aload_n (pc := 0) dX8_init_0 rfl ?_
  refine zA_objInit (pc := 1) koX8_1 zoi zoc (by decide) (Nat.le_of_ble_eq_true rfl) dX8_init_1 ?_
  refine zA_aload_n (pc := 4) dX8_init_4 rfl ?_
  refine zA_sipush (pc := 5) (500 : Int32) dX8_init_5 (by decide) ?_
  refine zA_newi (pc := 8) (N := 500) (w := (500 : Int32)) hwf hs hb (by omega) (by simp only [List.mem_cons, List.not_mem_nil, or_false, forall_eq_or_imp, forall_eq, ne_eq, zrefEq, reduceCtorEq, not_false_eq_true, and_true, true_and, false_implies, implies_true] <;> omega) (by simp only [List.mem_cons, List.not_mem_nil, or_false, forall_eq_or_imp, forall_eq, ne_eq, zrefEq, reduceCtorEq, not_false_eq_true, and_true, true_and, false_implies, implies_true] <;> omega) zai (by decide) (by decide) (by decide) dX8_init_8 (fun hwf hs => ?_)
  have hb := Nat.lt_succ_of_lt hb
  refine zA_putr (pc := 10) fdX8_9 hwf hb (by omega) hs rfl (Or.inr ⟨rfl, rfl, rfl, TX8, 15, rfl, flX8_9⟩) dX8_init_10 (fun hwf hs => ?_)
  refine zA_aload_n (pc := 13) dX8_init_13 rfl ?_
  refine zA_iconst (pc := 14) (0 : Int32) dX8_init_14 (by decide) ?_
  refine zA_puti (pc := 15) fdX8_13 hb hs rfl rfl dX8_init_15 ?_
  refine zA_aload_n (pc := 18) dX8_init_18 rfl ?_
  refine zA_iconst (pc := 19) (-1 : Int32) dX8_init_19 (by decide) ?_
  refine zA_puti (pc := 20) fdX8_17 hb hs rfl rfl dX8_init_20 ?_
  refine zA_aload_n (pc := 23) dX8_init_23 rfl ?_
  refine zA_new (pc := 24) (ci := 7) (CC := RX7) (T := TX7) (N := 15) hwf hs hb (by omega) (by simp only [List.mem_cons, List.not_mem_nil, or_false, forall_eq_or_imp, forall_eq, ne_eq, zrefEq, reduceCtorEq, not_false_eq_true, and_true, true_and, false_implies, implies_true] <;> omega) (by simp only [List.mem_cons, List.not_mem_nil, or_false, forall_eq_or_imp, forall_eq, ne_eq, zrefEq, reduceCtorEq, not_false_eq_true, and_true, true_and, false_implies, implies_true] <;> omega) rfl rfl zu_7 tyX7_ok knX8_20 zin_7 zii_7 zdf_7 dX8_init_24 (fun hwf hs => ?_)
  have hb := Nat.lt_succ_of_lt hb
  refine zA_dup (pc := 27) dX8_init_27 rfl ?_
  refine zA_callI (pc := 28) (b := (n + 1)) (As := []) kiX8_22 zin7 rfl (tc7 hwf (by omega) zupS_self (by omega)) (by decide) rfl rfl (Nat.le_of_ble_eq_true rfl) (by omega) (by omega) (by simp only [List.mem_cons, List.not_mem_nil, or_false, forall_eq_or_imp, forall_eq, zltEq, reduceCtorEq, false_implies, implies_true, and_true, true_and] <;> omega) (by simp only [List.mem_cons, List.not_mem_nil, or_false, forall_eq_or_imp, forall_eq, zltEq, reduceCtorEq, false_implies, implies_true, and_true, true_and] <;> omega) dX8_init_28 ?_
  have hs := (cS7_old (k := (n + 1)) (n := (n + 2)) (q := k) (by omega) (by omega)).trans hs
  have hwf := cS7_wf (k := (n + 1)) (n := (n + 2)) hwf (by omega) zupS_self
  have hb : k < n + 11 := by omega
  refine zA_putr (pc := 31) fdX8_23 hwf hb (by omega) hs rfl (Or.inr ⟨rfl, rfl, rfl, TX8, 15, rfl, flX8_23⟩) dX8_init_31 (fun hwf hs => ?_)
  refine zA_aload_n (pc := 34) dX8_init_34 rfl ?_
  refine zA_new (pc := 35) (ci := 7) (CC := RX7) (T := TX7) (N := 15) hwf hs hb (by omega) (by simp only [List.mem_cons, List.not_mem_nil, or_false, forall_eq_or_imp, forall_eq, ne_eq, zrefEq, reduceCtorEq, not_false_eq_true, and_true, true_and, false_implies, implies_true] <;> omega) (by simp only [List.mem_cons, List.not_mem_nil, or_false, forall_eq_or_imp, forall_eq, ne_eq, zrefEq, reduceCtorEq, not_false_eq_true, and_true, true_and, false_implies, implies_true] <;> omega) rfl rfl zu_7 tyX7_ok knX8_20 zin_7 zii_7 zdf_7 dX8_init_35 (fun hwf hs => ?_)
  have hb := Nat.lt_succ_of_lt hb
  refine zA_dup (pc := 38) dX8_init_38 rfl ?_
  refine zA_callI (pc := 39) (b := (n + 11)) (As := []) kiX8_22 zin7 rfl (tc7 hwf (by omega) zupS_self (by omega)) (by decide) rfl rfl (Nat.le_of_ble_eq_true rfl) (by omega) (by omega) (by simp only [List.mem_cons, List.not_mem_nil, or_false, forall_eq_or_imp, forall_eq, zltEq, reduceCtorEq, false_implies, implies_true, and_true, true_and] <;> omega) (by simp only [List.mem_cons, List.not_mem_nil, or_false, forall_eq_or_imp, forall_eq, zltEq, reduceCtorEq, false_implies, implies_true, and_true, true_and] <;> omega) dX8_init_39 ?_
  have hs := (cS7_old (k := (n + 11)) (n := (n + 12)) (q := k) (by omega) (by omega)).trans hs
  have hwf := cS7_wf (k := (n + 11)) (n := (n + 12)) hwf (by omega) zupS_self
  have hb : k < n + 21 := by omega
  refine zA_putr (pc := 42) fdX8_27 hwf hb (by omega) hs rfl (Or.inr ⟨rfl, rfl, rfl, TX8, 15, rfl, flX8_27⟩) dX8_init_42 (fun hwf hs => ?_)
  refine zA_aload_n (pc := 45) dX8_init_45 rfl ?_
  refine zA_new (pc := 46) (ci := 3) (CC := RX3) (T := TX3) (N := 6) hwf hs hb (by omega) (by simp only [List.mem_cons, List.not_mem_nil, or_false, forall_eq_or_imp, forall_eq, ne_eq, zrefEq, reduceCtorEq, not_false_eq_true, and_true, true_and, false_implies, implies_true] <;> omega) (by simp only [List.mem_cons, List.not_mem_nil, or_false, forall_eq_or_imp, forall_eq, ne_eq, zrefEq, reduceCtorEq, not_false_eq_true, and_true, true_and, false_implies, implies_true] <;> omega) rfl rfl zu_3 tyX3_ok knX8_30 zin_3 zii_3 zdf_3 dX8_init_46 (fun hwf hs => ?_)
  have hb := Nat.lt_succ_of_lt hb
  refine zA_dup (pc := 49) dX8_init_49 rfl ?_
  refine zA_aload_n (pc := 50) dX8_init_50 rfl ?_
  refine zA_getr (pc := 51) (x := n) fdX8_9 hb hs rfl rfl dX8_init_51 ?_
  refine zA_aload_n (pc := 54) dX8_init_54 rfl ?_
  refine zA_getr (pc := 55) (x := (n + 11)) fdX8_27 hb hs rfl rfl dX8_init_55 ?_
  refine zA_callI (pc := 58) (b := (n + 21)) (As := [.ref n, .ref (n + 11)]) kiX8_32 zin3 rfl (tc3 hwf (by omega) zupS_self (by omega) (by omega) (by omega)) (by decide) rfl rfl (Nat.le_of_ble_eq_true rfl) (by omega) (by omega) (by simp only [List.mem_cons, List.not_mem_nil, or_false, forall_eq_or_imp, forall_eq, zltEq, reduceCtorEq, false_implies, implies_true, and_true, true_and] <;> omega) (by simp only [List.mem_cons, List.not_mem_nil, or_false, forall_eq_or_imp, forall_eq, zltEq, reduceCtorEq, false_implies, implies_true, and_true, true_and] <;> omega) dX8_init_58 ?_
  have hs := (cS3_old (k := (n + 21)) (n := (n + 22)) (a := n) (t := (n + 11)) (q := k) (by omega) (by omega)).trans hs
  have hwf := cS3_wf (k := (n + 21)) (n := (n + 22)) (a := n) (t := (n + 11)) hwf (by omega) zupS_self (by omega) (by omega)
  have hb : k < n + 22 := by omega
  refine zA_putr (pc := 61) fdX8_35 hwf hb (by omega) hs rfl (Or.inr ⟨rfl, rfl, rfl, TX8, 15, rfl, flX8_35⟩) dX8_init_61 (fun hwf hs => ?_)
  refine zA_aload_n (pc := 64) dX8_init_64 rfl ?_
  refine zA_new (pc := 65) (ci := 5) (CC := RX5) (T := TX5) (N := 11) hwf hs hb (by omega) (by simp only [List.mem_cons, List.not_mem_nil, or_false, forall_eq_or_imp, forall_eq, ne_eq, zrefEq, reduceCtorEq, not_false_eq_true, and_true, true_and, false_implies, implies_true] <;> omega) (by simp only [List.mem_cons, List.not_mem_nil, or_false, forall_eq_or_imp, forall_eq, ne_eq, zrefEq, reduceCtorEq, not_false_eq_true, and_true, true_and, false_implies, implies_true] <;> omega) rfl rfl zu_5 tyX5_ok knX8_39 zin_5 zii_5 zdf_5 dX8_init_65 (fun hwf hs => ?_)
  have hb := Nat.lt_succ_of_lt hb
  refine zA_dup (pc := 68) dX8_init_68 rfl ?_
  refine zA_aload_n (pc := 69) dX8_init_69 rfl ?_
  refine zA_getr (pc := 70) (x := (n + 1)) fdX8_23 hb hs rfl rfl dX8_init_70 ?_
  refine zA_callI (pc := 73) (b := (n + 22)) (As := [.ref (n + 1)]) kiX8_41 zin5 rfl (tc5 hwf (by omega) zupS_self (by omega) (by omega)) (by decide) rfl rfl (Nat.le_of_ble_eq_true rfl) (by omega) (by omega) (by simp only [List.mem_cons, List.not_mem_nil, or_false, forall_eq_or_imp, forall_eq, zltEq, reduceCtorEq, false_implies, implies_true, and_true, true_and] <;> omega) (by simp only [List.mem_cons, List.not_mem_nil, or_false, forall_eq_or_imp, forall_eq, zltEq, reduceCtorEq, false_implies, implies_true, and_true, true_and] <;> omega) dX8_init_73 ?_
  have hs := (cS5_old (k := (n + 22)) (n := (n + 23)) (t := (n + 1)) (q := k) (by omega) (by omega)).trans hs
  have hwf := cS5_wf (k := (n + 22)) (n := (n + 23)) (t := (n + 1)) hwf (by omega) zupS_self (by omega)
  have hb : k < n + 27 := by omega
  refine zA_putr (pc := 76) fdX8_44 hwf hb (by omega) hs rfl (Or.inr ⟨rfl, rfl, rfl, TX8, 15, rfl, flX8_44⟩) dX8_init_76 (fun hwf hs => ?_)
  refine zA_aload_n (pc := 79) dX8_init_79 rfl ?_
  refine zA_new (pc := 80) (ci := 5) (CC := RX5) (T := TX5) (N := 11) hwf hs hb (by omega) (by simp only [List.mem_cons, List.not_mem_nil, or_false, forall_eq_or_imp, forall_eq, ne_eq, zrefEq, reduceCtorEq, not_false_eq_true, and_true, true_and, false_implies, implies_true] <;> omega) (by simp only [List.mem_cons, List.not_mem_nil, or_false, forall_eq_or_imp, forall_eq, ne_eq, zrefEq, reduceCtorEq, not_false_eq_true, and_true, true_and, false_implies, implies_true] <;> omega) rfl rfl zu_5 tyX5_ok knX8_39 zin_5 zii_5 zdf_5 dX8_init_80 (fun hwf hs => ?_)
  have hb := Nat.lt_succ_of_lt hb
  refine zA_dup (pc := 83) dX8_init_83 rfl ?_
  refine zA_aload_n (pc := 84) dX8_init_84 rfl ?_
  refine zA_getr (pc := 85) (x := (n + 1)) fdX8_23 hb hs rfl rfl dX8_init_85 ?_
  refine zA_callI (pc := 88) (b := (n + 27)) (As := [.ref (n + 1)]) kiX8_41 zin5 rfl (tc5 hwf (by omega) zupS_self (by omega) (by omega)) (by decide) rfl rfl (Nat.le_of_ble_eq_true rfl) (by omega) (by omega) (by simp only [List.mem_cons, List.not_mem_nil, or_false, forall_eq_or_imp, forall_eq, zltEq, reduceCtorEq, false_implies, implies_true, and_true, true_and] <;> omega) (by simp only [List.mem_cons, List.not_mem_nil, or_false, forall_eq_or_imp, forall_eq, zltEq, reduceCtorEq, false_implies, implies_true, and_true, true_and] <;> omega) dX8_init_88 ?_
  have hs := (cS5_old (k := (n + 27)) (n := (n + 28)) (t := (n + 1)) (q := k) (by omega) (by omega)).trans hs
  have hwf := cS5_wf (k := (n + 27)) (n := (n + 28)) (t := (n + 1)) hwf (by omega) zupS_self (by omega)
  have hb : k < n + 32 := by omega
  refine zA_putr (pc := 91) fdX8_48 hwf hb (by omega) hs rfl (Or.inr ⟨rfl, rfl, rfl, TX8, 15, rfl, flX8_48⟩) dX8_init_91 (fun hwf hs => ?_)
  refine zA_aload_n (pc := 94) dX8_init_94 rfl ?_
  refine zA_iconst (pc := 95) (3 : Int32) dX8_init_95 (by decide) ?_
  refine zA_newq (pc := 96) (N := 3) (w := (3 : Int32)) hwf hs hb (by omega) (by simp only [List.mem_cons, List.not_mem_nil, or_false, forall_eq_or_imp, forall_eq, ne_eq, zrefEq, reduceCtorEq, not_false_eq_true, and_true, true_and, false_implies, implies_true] <;> omega) (by simp only [List.mem_cons, List.not_mem_nil, or_false, forall_eq_or_imp, forall_eq, ne_eq, zrefEq, reduceCtorEq, not_false_eq_true, and_true, true_and, false_implies, implies_true] <;> omega) kqX8_39 zovS (by decide) (by decide) (by decide) dX8_init_96 (fun hwf hs => ?_)
  have hb := Nat.lt_succ_of_lt hb
  have hq : _ = ((2, 4, 3, zn) : zSh) := zupS_self (S := (zupS (cS5 (n + 27) (n + 28) (n + 1) (zupS (zupS (cS5 (n + 22) (n + 23) (n + 1) (zupS (zupS (cS3 (n + 21) (n + 22) n (n + 11) (zupS (zupS (cS7 (n + 11) (n + 12) (zupS (zupS (cS7 (n + 1) (n + 2) (zupS (zupS (zupS S n (1, 0, 500, zn)) k (0, 8, 0, (fun i => if i = 0 then some n else zn i))) (n + 1) (0, 7, 0, zn))) k (0, 8, 0, (fun i => if i = 3 then some (n + 1) else (fun i => if i = 0 then some n else zn i) i))) (n + 11) (0, 7, 0, zn))) k (0, 8, 0, (fun i => if i = 4 then some (n + 11) else (fun i => if i = 3 then some (n + 1) else (fun i => if i = 0 then some n else zn i) i) i))) (n + 21) (0, 3, 0, zn))) k (0, 8, 0, (fun i => if i = 5 then some (n + 21) else (fun i => if i = 4 then some (n + 11) else (fun i => if i = 3 then some (n + 1) else (fun i => if i = 0 then some n else zn i) i) i) i))) (n + 22) (0, 5, 0, zn))) k (0, 8, 0, (fun i => if i = 6 then some (n + 22) else (fun i => if i = 5 then some (n + 21) else (fun i => if i = 4 then some (n + 11) else (fun i => if i = 3 then some (n + 1) else (fun i => if i = 0 then some n else zn i) i) i) i) i))) (n + 27) (0, 5, 0, zn))) k (0, 8, 0, (fun i => if i = 7 then some (n + 27) else (fun i => if i = 6 then some (n + 22) else (fun i => if i = 5 then some (n + 21) else (fun i => if i = 4 then some (n + 11) else (fun i => if i = 3 then some (n + 1) else (fun i => if i = 0 then some n else zn i) i) i) i) i) i)))) (k := (n + 32))
  refine zA_dup (pc := 99) dX8_init_99 rfl ?_
  refine zA_iconst (pc := 100) (0 : Int32) dX8_init_100 (by decide) ?_
  refine zA_new (pc := 101) (ci := 5) (CC := RX5) (T := TX5) (N := 11) hwf hs hb (by omega) (by simp only [List.mem_cons, List.not_mem_nil, or_false, forall_eq_or_imp, forall_eq, ne_eq, zrefEq, reduceCtorEq, not_false_eq_true, and_true, true_and, false_implies, implies_true] <;> omega) (by simp only [List.mem_cons, List.not_mem_nil, or_false, forall_eq_or_imp, forall_eq, ne_eq, zrefEq, reduceCtorEq, not_false_eq_true, and_true, true_and, false_implies, implies_true] <;> omega) rfl rfl zu_5 tyX5_ok knX8_39 zin_5 zii_5 zdf_5 dX8_init_101 (fun hwf hs => ?_)
  have hb := Nat.lt_succ_of_lt hb
  have hq := (zupS_ne (k := (n + 33)) (sh := (0, 5, 0, zn)) (q := (n + 32)) (by omega)).trans hq
  refine zA_dup (pc := 104) dX8_init_104 rfl ?_
  refine zA_aload_n (pc := 105) dX8_init_105 rfl ?_
  refine zA_getr (pc := 106) (x := (n + 1)) fdX8_23 hb hs rfl rfl dX8_init_106 ?_
  refine zA_callI (pc := 109) (b := (n + 33)) (As := [.ref (n + 1)]) kiX8_41 zin5 rfl (tc5 hwf (by omega) zupS_self (by omega) (by omega)) (by decide) rfl rfl (Nat.le_of_ble_eq_true rfl) (by omega) (by omega) (by simp only [List.mem_cons, List.not_mem_nil, or_false, forall_eq_or_imp, forall_eq, zltEq, reduceCtorEq, false_implies, implies_true, and_true, true_and] <;> omega) (by simp only [List.mem_cons, List.not_mem_nil, or_false, forall_eq_or_imp, forall_eq, zltEq, reduceCtorEq, false_implies, implies_true, and_true, true_and] <;> omega) dX8_init_109 ?_
  have hs := (cS5_old (k := (n + 33)) (n := (n + 34)) (t := (n + 1)) (q := k) (by omega) (by omega)).trans hs
  have hq := (cS5_old (k := (n + 33)) (n := (n + 34)) (t := (n + 1)) (q := (n + 32)) (by omega) (by omega)).trans hq
  have hwf := cS5_wf (k := (n + 33)) (n := (n + 34)) (t := (n + 1)) hwf (by omega) zupS_self (by omega)
  have hb : k < n + 38 := by omega
  refine zA_aast (pc := 112) (i := (0 : Int32)) hwf hs (by omega) (by omega) (by omega) hq (cS5_self (k := (n + 33)) (n := (n + 34)) (t := (n + 1))) (by unfold vp_in; decide) dX8_init_112 (fun hwf hs hq => ?_)
  refine zA_dup (pc := 113) dX8_init_113 rfl ?_
  refine zA_iconst (pc := 114) (1 : Int32) dX8_init_114 (by decide) ?_
  refine zA_new (pc := 115) (ci := 5) (CC := RX5) (T := TX5) (N := 11) hwf hs hb (by omega) (by simp only [List.mem_cons, List.not_mem_nil, or_false, forall_eq_or_imp, forall_eq, ne_eq, zrefEq, reduceCtorEq, not_false_eq_true, and_true, true_and, false_implies, implies_true] <;> omega) (by simp only [List.mem_cons, List.not_mem_nil, or_false, forall_eq_or_imp, forall_eq, ne_eq, zrefEq, reduceCtorEq, not_false_eq_true, and_true, true_and, false_implies, implies_true] <;> omega) rfl rfl zu_5 tyX5_ok knX8_39 zin_5 zii_5 zdf_5 dX8_init_115 (fun hwf hs => ?_)
  have hb := Nat.lt_succ_of_lt hb
  have hq := (zupS_ne (k := (n + 38)) (sh := (0, 5, 0, zn)) (q := (n + 32)) (by omega)).trans hq
  refine zA_dup (pc := 118) dX8_init_118 rfl ?_
  refine zA_aload_n (pc := 119) dX8_init_119 rfl ?_
  refine zA_getr (pc := 120) (x := (n + 1)) fdX8_23 hb hs rfl rfl dX8_init_120 ?_
  refine zA_callI (pc := 123) (b := (n + 38)) (As := [.ref (n + 1)]) kiX8_41 zin5 rfl (tc5 hwf (by omega) zupS_self (by omega) (by omega)) (by decide) rfl rfl (Nat.le_of_ble_eq_true rfl) (by omega) (by omega) (by simp only [List.mem_cons, List.not_mem_nil, or_false, forall_eq_or_imp, forall_eq, zltEq, reduceCtorEq, false_implies, implies_true, and_true, true_and] <;> omega) (by simp only [List.mem_cons, List.not_mem_nil, or_false, forall_eq_or_imp, forall_eq, zltEq, reduceCtorEq, false_implies, implies_true, and_true, true_and] <;> omega) dX8_init_123 ?_
  have hs := (cS5_old (k := (n + 38)) (n := (n + 39)) (t := (n + 1)) (q := k) (by omega) (by omega)).trans hs
  have hq := (cS5_old (k := (n + 38)) (n := (n + 39)) (t := (n + 1)) (q := (n + 32)) (by omega) (by omega)).trans hq
  have hwf := cS5_wf (k := (n + 38)) (n := (n + 39)) (t := (n + 1)) hwf (by omega) zupS_self (by omega)
  have hb : k < n + 43 := by omega
  refine zA_aast (pc := 126) (i := (1 : Int32)) hwf hs (by omega) (by omega) (by omega) hq (cS5_self (k := (n + 38)) (n := (n + 39)) (t := (n + 1))) (by unfold vp_in; decide) dX8_init_126 (fun hwf hs hq => ?_)
  refine zA_dup (pc := 127) dX8_init_127 rfl ?_
  refine zA_iconst (pc := 128) (2 : Int32) dX8_init_128 (by decide) ?_
  refine zA_new (pc := 129) (ci := 5) (CC := RX5) (T := TX5) (N := 11) hwf hs hb (by omega) (by simp only [List.mem_cons, List.not_mem_nil, or_false, forall_eq_or_imp, forall_eq, ne_eq, zrefEq, reduceCtorEq, not_false_eq_true, and_true, true_and, false_implies, implies_true] <;> omega) (by simp only [List.mem_cons, List.not_mem_nil, or_false, forall_eq_or_imp, forall_eq, ne_eq, zrefEq, reduceCtorEq, not_false_eq_true, and_true, true_and, false_implies, implies_true] <;> omega) rfl rfl zu_5 tyX5_ok knX8_39 zin_5 zii_5 zdf_5 dX8_init_129 (fun hwf hs => ?_)
  have hb := Nat.lt_succ_of_lt hb
  have hq := (zupS_ne (k := (n + 43)) (sh := (0, 5, 0, zn)) (q := (n + 32)) (by omega)).trans hq
  refine zA_dup (pc := 132) dX8_init_132 rfl ?_
  refine zA_aload_n (pc := 133) dX8_init_133 rfl ?_
  refine zA_getr (pc := 134) (x := (n + 1)) fdX8_23 hb hs rfl rfl dX8_init_134 ?_
  refine zA_callI (pc := 137) (b := (n + 43)) (As := [.ref (n + 1)]) kiX8_41 zin5 rfl (tc5 hwf (by omega) zupS_self (by omega) (by omega)) (by decide) rfl rfl (Nat.le_of_ble_eq_true rfl) (by omega) (by omega) (by simp only [List.mem_cons, List.not_mem_nil, or_false, forall_eq_or_imp, forall_eq, zltEq, reduceCtorEq, false_implies, implies_true, and_true, true_and] <;> omega) (by simp only [List.mem_cons, List.not_mem_nil, or_false, forall_eq_or_imp, forall_eq, zltEq, reduceCtorEq, false_implies, implies_true, and_true, true_and] <;> omega) dX8_init_137 ?_
  have hs := (cS5_old (k := (n + 43)) (n := (n + 44)) (t := (n + 1)) (q := k) (by omega) (by omega)).trans hs
  have hq := (cS5_old (k := (n + 43)) (n := (n + 44)) (t := (n + 1)) (q := (n + 32)) (by omega) (by omega)).trans hq
  have hwf := cS5_wf (k := (n + 43)) (n := (n + 44)) (t := (n + 1)) hwf (by omega) zupS_self (by omega)
  have hb : k < n + 48 := by omega
  refine zA_aast (pc := 140) (i := (2 : Int32)) hwf hs (by omega) (by omega) (by omega) hq (cS5_self (k := (n + 43)) (n := (n + 44)) (t := (n + 1))) (by unfold vp_in; decide) dX8_init_140 (fun hwf hs hq => ?_)
  refine zA_putr (pc := 141) fdX8_51 hwf hb (by omega) hs rfl (Or.inr ⟨rfl, rfl, rfl, TX8, 15, rfl, flX8_51⟩) dX8_init_141 (fun hwf hs => ?_)
  refine zA_aload_n (pc := 144) dX8_init_144 rfl ?_
  refine zA_iconst (pc := 145) (0 : Int32) dX8_init_145 (by decide) ?_
  refine zA_puti (pc := 146) fdX8_55 hb hs rfl rfl dX8_init_146 ?_
  refine zA_aload_n (pc := 149) dX8_init_149 rfl ?_
  refine zA_new (pc := 150) (ci := 2) (CC := RX2) (T := TX2) (N := 6) hwf hs hb (by omega) (by simp only [List.mem_cons, List.not_mem_nil, or_false, forall_eq_or_imp, forall_eq, ne_eq, zrefEq, reduceCtorEq, not_false_eq_true, and_true, true_and, false_implies, implies_true] <;> omega) (by simp only [List.mem_cons, List.not_mem_nil, or_false, forall_eq_or_imp, forall_eq, ne_eq, zrefEq, reduceCtorEq, not_false_eq_true, and_true, true_and, false_implies, implies_true] <;> omega) rfl rfl zu_2 tyX2_ok knX8_58 zin_2 zii_2 zdf_2 dX8_init_150 (fun hwf hs => ?_)
  have hb := Nat.lt_succ_of_lt hb
  have hq := (zupS_ne (k := (n + 48)) (sh := (0, 2, 0, zn)) (q := (n + 32)) (by omega)).trans hq
  refine zA_dup (pc := 153) dX8_init_153 rfl ?_
  refine zA_aload_n (pc := 154) dX8_init_154 rfl ?_
  refine zA_getr (pc := 155) (x := (n + 1)) fdX8_23 hb hs rfl rfl dX8_init_155 ?_
  refine zA_callI (pc := 158) (b := (n + 48)) (As := [.ref (n + 1)]) kiX8_60 zin2 rfl (tc2 hwf (by omega) zupS_self (by omega) (by omega)) (by decide) rfl rfl (Nat.le_of_ble_eq_true rfl) (by omega) (by omega) (by simp only [List.mem_cons, List.not_mem_nil, or_false, forall_eq_or_imp, forall_eq, zltEq, reduceCtorEq, false_implies, implies_true, and_true, true_and] <;> omega) (by simp only [List.mem_cons, List.not_mem_nil, or_false, forall_eq_or_imp, forall_eq, zltEq, reduceCtorEq, false_implies, implies_true, and_true, true_and] <;> omega) dX8_init_158 ?_
  have hs := (cS2_old (k := (n + 48)) (n := (n + 49)) (t := (n + 1)) (q := k) (by omega) (by omega)).trans hs
  have hq := (cS2_old (k := (n + 48)) (n := (n + 49)) (t := (n + 1)) (q := (n + 32)) (by omega) (by omega)).trans hq
  have hwf := cS2_wf (k := (n + 48)) (n := (n + 49)) (t := (n + 1)) hwf (by omega) zupS_self (by omega)
  have hb : k < n + 53 := by omega
  refine zA_putr (pc := 161) fdX8_61 hwf hb (by omega) hs rfl (Or.inr ⟨rfl, rfl, rfl, TX8, 15, rfl, flX8_61⟩) dX8_init_161 (fun hwf hs => ?_)
  refine zA_aload_n (pc := 164) dX8_init_164 rfl ?_
  refine zA_new (pc := 165) (ci := 0) (CC := RX0) (T := TX0) (N := 4) hwf hs hb (by omega) (by simp only [List.mem_cons, List.not_mem_nil, or_false, forall_eq_or_imp, forall_eq, ne_eq, zrefEq, reduceCtorEq, not_false_eq_true, and_true, true_and, false_implies, implies_true] <;> omega) (by simp only [List.mem_cons, List.not_mem_nil, or_false, forall_eq_or_imp, forall_eq, ne_eq, zrefEq, reduceCtorEq, not_false_eq_true, and_true, true_and, false_implies, implies_true] <;> omega) rfl rfl zu_0 tyX0_ok knX8_65 zin_0 zii_0 zdf_0 dX8_init_165 (fun hwf hs => ?_)
  have hb := Nat.lt_succ_of_lt hb
  have hq := (zupS_ne (k := (n + 53)) (sh := (0, 0, 0, zn)) (q := (n + 32)) (by omega)).trans hq
  refine zA_dup (pc := 168) dX8_init_168 rfl ?_
  refine zA_aload_n (pc := 169) dX8_init_169 rfl ?_
  refine zA_getr (pc := 170) (x := (n + 1)) fdX8_23 hb hs rfl rfl dX8_init_170 ?_
  refine zA_callI (pc := 173) (b := (n + 53)) (As := [.ref (n + 1)]) kiX8_67 zin0 rfl (tc0 hwf (by omega) zupS_self (by omega) (by omega)) (by decide) rfl rfl (Nat.le_of_ble_eq_true rfl) (by omega) (by omega) (by simp only [List.mem_cons, List.not_mem_nil, or_false, forall_eq_or_imp, forall_eq, zltEq, reduceCtorEq, false_implies, implies_true, and_true, true_and] <;> omega) (by simp only [List.mem_cons, List.not_mem_nil, or_false, forall_eq_or_imp, forall_eq, zltEq, reduceCtorEq, false_implies, implies_true, and_true, true_and] <;> omega) dX8_init_173 ?_
  have hs := (cS0_old (k := (n + 53)) (n := (n + 54)) (t := (n + 1)) (q := k) (by omega) (by omega)).trans hs
  have hq := (cS0_old (k := (n + 53)) (n := (n + 54)) (t := (n + 1)) (q := (n + 32)) (by omega) (by omega)).trans hq
  have hwf := cS0_wf (k := (n + 53)) (n := (n + 54)) (t := (n + 1)) hwf (by omega) zupS_self (by omega)
  have hb : k < n + 56 := by omega
  refine zA_putr (pc := 176) fdX8_68 hwf hb (by omega) hs rfl (Or.inr ⟨rfl, rfl, rfl, TX8, 15, rfl, flX8_68⟩) dX8_init_176 (fun hwf hs => ?_)
  refine zA_aload_n (pc := 179) dX8_init_179 rfl ?_
  refine zA_new (pc := 180) (ci := 4) (CC := RX4) (T := TX4) (N := 11) hwf hs hb (by omega) (by simp only [List.mem_cons, List.not_mem_nil, or_false, forall_eq_or_imp, forall_eq, ne_eq, zrefEq, reduceCtorEq, not_false_eq_true, and_true, true_and, false_implies, implies_true] <;> omega) (by simp only [List.mem_cons, List.not_mem_nil, or_false, forall_eq_or_imp, forall_eq, ne_eq, zrefEq, reduceCtorEq, not_false_eq_true, and_true, true_and, false_implies, implies_true] <;> omega) rfl rfl zu_4 tyX4_ok knX8_72 zin_4 zii_4 zdf_4 dX8_init_180 (fun hwf hs => ?_)
  have hb := Nat.lt_succ_of_lt hb
  have hq := (zupS_ne (k := (n + 56)) (sh := (0, 4, 0, zn)) (q := (n + 32)) (by omega)).trans hq
  refine zA_dup (pc := 183) dX8_init_183 rfl ?_
  refine zA_aload_n (pc := 184) dX8_init_184 rfl ?_
  refine zA_getr (pc := 185) (x := (n + 1)) fdX8_23 hb hs rfl rfl dX8_init_185 ?_
  refine zA_aload_n (pc := 188) dX8_init_188 rfl ?_
  refine zA_getr (pc := 189) (x := (n + 27)) fdX8_48 hb hs rfl rfl dX8_init_189 ?_
  refine zA_callI (pc := 192) (b := (n + 56)) (As := [.ref (n + 1), .ref (n + 27)]) kiX8_74 zin4 rfl (tc4 hwf (by omega) zupS_self (by omega) (by omega) (by omega)) (by decide) rfl rfl (Nat.le_of_ble_eq_true rfl) (by omega) (by omega) (by simp only [List.mem_cons, List.not_mem_nil, or_false, forall_eq_or_imp, forall_eq, zltEq, reduceCtorEq, false_implies, implies_true, and_true, true_and] <;> omega) (by simp only [List.mem_cons, List.not_mem_nil, or_false, forall_eq_or_imp, forall_eq, zltEq, reduceCtorEq, false_implies, implies_true, and_true, true_and] <;> omega) dX8_init_192 ?_
  have hs := (cS4_old (k := (n + 56)) (n := (n + 57)) (t := (n + 1)) (a := (n + 27)) (q := k) (by omega) (by omega)).trans hs
  have hq := (cS4_old (k := (n + 56)) (n := (n + 57)) (t := (n + 1)) (a := (n + 27)) (q := (n + 32)) (by omega) (by omega)).trans hq
  have hwf := cS4_wf (k := (n + 56)) (n := (n + 57)) (t := (n + 1)) (a := (n + 27)) hwf (by omega) zupS_self (by omega) (by omega)
  have hb : k < n + 57 := by omega
  refine zA_putr (pc := 195) fdX8_77 hwf hb (by omega) hs rfl (Or.inr ⟨rfl, rfl, rfl, TX8, 15, rfl, flX8_77⟩) dX8_init_195 (fun hwf hs => ?_)
  refine zA_aload_n (pc := 198) dX8_init_198 rfl ?_
  refine zA_new (pc := 199) (ci := 6) (CC := RX6) (T := TX6) (N := 6) hwf hs hb (by omega) (by simp only [List.mem_cons, List.not_mem_nil, or_false, forall_eq_or_imp, forall_eq, ne_eq, zrefEq, reduceCtorEq, not_false_eq_true, and_true, true_and, false_implies, implies_true] <;> omega) (by simp only [List.mem_cons, List.not_mem_nil, or_false, forall_eq_or_imp, forall_eq, ne_eq, zrefEq, reduceCtorEq, not_false_eq_true, and_true, true_and, false_implies, implies_true] <;> omega) rfl rfl zu_6 tyX6_ok knX8_81 zin_6 zii_6 zdf_6 dX8_init_199 (fun hwf hs => ?_)
  have hb := Nat.lt_succ_of_lt hb
  have hq := (zupS_ne (k := (n + 57)) (sh := (0, 6, 0, zn)) (q := (n + 32)) (by omega)).trans hq
  refine zA_dup (pc := 202) dX8_init_202 rfl ?_
  refine zA_aload_n (pc := 203) dX8_init_203 rfl ?_
  refine zA_getr (pc := 204) (x := (n + 1)) fdX8_23 hb hs rfl rfl dX8_init_204 ?_
  refine zA_callI (pc := 207) (b := (n + 57)) (As := [.ref (n + 1)]) kiX8_83 zin6 rfl (tc6 hwf (by omega) zupS_self (by omega) (by omega)) (by decide) rfl rfl (Nat.le_of_ble_eq_true rfl) (by omega) (by omega) (by simp only [List.mem_cons, List.not_mem_nil, or_false, forall_eq_or_imp, forall_eq, zltEq, reduceCtorEq, false_implies, implies_true, and_true, true_and] <;> omega) (by simp only [List.mem_cons, List.not_mem_nil, or_false, forall_eq_or_imp, forall_eq, zltEq, reduceCtorEq, false_implies, implies_true, and_true, true_and] <;> omega) dX8_init_207 ?_
  have hs := (cS6_old (k := (n + 57)) (n := (n + 58)) (t := (n + 1)) (q := k) (by omega) (by omega)).trans hs
  have hq := (cS6_old (k := (n + 57)) (n := (n + 58)) (t := (n + 1)) (q := (n + 32)) (by omega) (by omega)).trans hq
  have hwf := cS6_wf (k := (n + 57)) (n := (n + 58)) (t := (n + 1)) hwf (by omega) zupS_self (by omega)
  have hb : k < n + 68 := by omega
  refine zA_putr (pc := 210) fdX8_84 hwf hb (by omega) hs rfl (Or.inr ⟨rfl, rfl, rfl, TX8, 15, rfl, flX8_84⟩) dX8_init_210 (fun hwf hs => ?_)
  refine zA_aload_n (pc := 213) dX8_init_213 rfl ?_
  refine zA_null (pc := 214) dX8_init_214 ?_
  refine zA_putn (pc := 215) fdX8_88 hb hs rfl rfl rfl dX8_init_215 ?_
  exact zA_vret (pc := 218) rfl dX8_init_218
theorem cS8_old {k n : Nat} {S : Nat → zSh} {q : Nat} (h1 : q ≠ k) (h2 : q < n) : cS8 k n S q = S q := by
  unfold cS8
  rw [zupS_ne (by omega), cS6_old (by omega) (by omega), zupS_ne (by omega), zupS_ne (by omega), cS4_old (by omega) (by omega), zupS_ne (by omega), zupS_ne (by omega), cS0_old (by omega) (by omega), zupS_ne (by omega), zupS_ne (by omega), cS2_old (by omega) (by omega), zupS_ne (by omega), zupS_ne (by omega), zupS_ne (by omega), cS5_old (by omega) (by omega), zupS_ne (by omega), zupS_ne (by omega), cS5_old (by omega) (by omega), zupS_ne (by omega), zupS_ne (by omega), cS5_old (by omega) (by omega), zupS_ne (by omega), zupS_ne (by omega), zupS_ne (by omega), cS5_old (by omega) (by omega), zupS_ne (by omega), zupS_ne (by omega), cS5_old (by omega) (by omega), zupS_ne (by omega), zupS_ne (by omega), cS3_old (by omega) (by omega), zupS_ne (by omega), zupS_ne (by omega), cS7_old (by omega) (by omega), zupS_ne (by omega), zupS_ne (by omega), cS7_old (by omega) (by omega), zupS_ne (by omega), zupS_ne (by omega), zupS_ne (by omega)]
theorem cS8_wf {k n : Nat} {S : Nat → zSh} (hwf : zWf n S) (hb : k < n) (hs : S k = (0, 8, 0, zn)) : zWf (n + 68) (cS8 k n S) := by
  unfold cS8
  have hwf := zWf_new (sh := (1, 0, 500, zn)) hwf (fun j r h => by cases (show (none : Option Nat) = some r from h))
  have hs := (zupS_ne (k := n) (sh := (1, 0, 500, zn)) (q := k) (by omega)).trans hs
  have hs9 := hs
  have hwf := zWf_put (i := 0) hwf (by omega) hs9 (show n < _ by omega)
  have hs : _ = _ := zupS_put (i := 0) (x := n) hs9
  have hwf := zWf_new (sh := (0, 7, 0, zn)) hwf (fun j r h => by cases (show (none : Option Nat) = some r from h))
  have hs := (zupS_ne (k := (n + 1)) (sh := (0, 7, 0, zn)) (q := k) (by omega)).trans hs
  have hwf := cS7_wf (k := (n + 1)) (n := (n + 2)) hwf (by omega) zupS_self
  have hs := (cS7_old (k := (n + 1)) (n := (n + 2)) (q := k) (by omega) (by omega)).trans hs
  have hs9 := hs
  have hwf := zWf_put (i := 3) hwf (by omega) hs9 (show (n + 1) < _ by omega)
  have hs : _ = _ := zupS_put (i := 3) (x := (n + 1)) hs9
  have hwf := zWf_new (sh := (0, 7, 0, zn)) hwf (fun j r h => by cases (show (none : Option Nat) = some r from h))
  have hs := (zupS_ne (k := (n + 11)) (sh := (0, 7, 0, zn)) (q := k) (by omega)).trans hs
  have hwf := cS7_wf (k := (n + 11)) (n := (n + 12)) hwf (by omega) zupS_self
  have hs := (cS7_old (k := (n + 11)) (n := (n + 12)) (q := k) (by omega) (by omega)).trans hs
  have hs9 := hs
  have hwf := zWf_put (i := 4) hwf (by omega) hs9 (show (n + 11) < _ by omega)
  have hs : _ = _ := zupS_put (i := 4) (x := (n + 11)) hs9
  have hwf := zWf_new (sh := (0, 3, 0, zn)) hwf (fun j r h => by cases (show (none : Option Nat) = some r from h))
  have hs := (zupS_ne (k := (n + 21)) (sh := (0, 3, 0, zn)) (q := k) (by omega)).trans hs
  have hwf := cS3_wf (k := (n + 21)) (n := (n + 22)) (a := n) (t := (n + 11)) hwf (by omega) zupS_self (by omega) (by omega)
  have hs := (cS3_old (k := (n + 21)) (n := (n + 22)) (a := n) (t := (n + 11)) (q := k) (by omega) (by omega)).trans hs
  have hs9 := hs
  have hwf := zWf_put (i := 5) hwf (by omega) hs9 (show (n + 21) < _ by omega)
  have hs : _ = _ := zupS_put (i := 5) (x := (n + 21)) hs9
  have hwf := zWf_new (sh := (0, 5, 0, zn)) hwf (fun j r h => by cases (show (none : Option Nat) = some r from h))
  have hs := (zupS_ne (k := (n + 22)) (sh := (0, 5, 0, zn)) (q := k) (by omega)).trans hs
  have hwf := cS5_wf (k := (n + 22)) (n := (n + 23)) (t := (n + 1)) hwf (by omega) zupS_self (by omega)
  have hs := (cS5_old (k := (n + 22)) (n := (n + 23)) (t := (n + 1)) (q := k) (by omega) (by omega)).trans hs
  have hs9 := hs
  have hwf := zWf_put (i := 6) hwf (by omega) hs9 (show (n + 22) < _ by omega)
  have hs : _ = _ := zupS_put (i := 6) (x := (n + 22)) hs9
  have hwf := zWf_new (sh := (0, 5, 0, zn)) hwf (fun j r h => by cases (show (none : Option Nat) = some r from h))
  have hs := (zupS_ne (k := (n + 27)) (sh := (0, 5, 0, zn)) (q := k) (by omega)).trans hs
  have hwf := cS5_wf (k := (n + 27)) (n := (n + 28)) (t := (n + 1)) hwf (by omega) zupS_self (by omega)
  have hs := (cS5_old (k := (n + 27)) (n := (n + 28)) (t := (n + 1)) (q := k) (by omega) (by omega)).trans hs
  have hs9 := hs
  have hwf := zWf_put (i := 7) hwf (by omega) hs9 (show (n + 27) < _ by omega)
  have hs : _ = _ := zupS_put (i := 7) (x := (n + 27)) hs9
  have hwf := zWf_new (sh := (2, 4, 3, zn)) hwf (fun j r h => by cases (show (none : Option Nat) = some r from h))
  have hs := (zupS_ne (k := (n + 32)) (sh := (2, 4, 3, zn)) (q := k) (by omega)).trans hs
  have hq : _ = ((2, 4, 3, zn) : zSh) := zupS_self (S := (zupS (cS5 (n + 27) (n + 28) (n + 1) (zupS (zupS (cS5 (n + 22) (n + 23) (n + 1) (zupS (zupS (cS3 (n + 21) (n + 22) n (n + 11) (zupS (zupS (cS7 (n + 11) (n + 12) (zupS (zupS (cS7 (n + 1) (n + 2) (zupS (zupS (zupS S n (1, 0, 500, zn)) k (0, 8, 0, (fun i => if i = 0 then some n else zn i))) (n + 1) (0, 7, 0, zn))) k (0, 8, 0, (fun i => if i = 3 then some (n + 1) else (fun i => if i = 0 then some n else zn i) i))) (n + 11) (0, 7, 0, zn))) k (0, 8, 0, (fun i => if i = 4 then some (n + 11) else (fun i => if i = 3 then some (n + 1) else (fun i => if i = 0 then some n else zn i) i) i))) (n + 21) (0, 3, 0, zn))) k (0, 8, 0, (fun i => if i = 5 then some (n + 21) else (fun i => if i = 4 then some (n + 11) else (fun i => if i = 3 then some (n + 1) else (fun i => if i = 0 then some n else zn i) i) i) i))) (n + 22) (0, 5, 0, zn))) k (0, 8, 0, (fun i => if i = 6 then some (n + 22) else (fun i => if i = 5 then some (n + 21) else (fun i => if i = 4 then some (n + 11) else (fun i => if i = 3 then some (n + 1) else (fun i => if i = 0 then some n else zn i) i) i) i) i))) (n + 27) (0, 5, 0, zn))) k (0, 8, 0, (fun i => if i = 7 then some (n + 27) else (fun i => if i = 6 then some (n + 22) else (fun i => if i = 5 then some (n + 21) else (fun i => if i = 4 then some (n + 11) else (fun i => if i = 3 then some (n + 1) else (fun i => if i = 0 then some n else zn i) i) i) i) i) i)))) (k := (n + 32))
  have hwf := zWf_new (sh := (0, 5, 0, zn)) hwf (fun j r h => by cases (show (none : Option Nat) = some r from h))
  have hs := (zupS_ne (k := (n + 33)) (sh := (0, 5, 0, zn)) (q := k) (by omega)).trans hs
  have hq := (zupS_ne (k := (n + 33)) (sh := (0, 5, 0, zn)) (q := (n + 32)) (by omega)).trans hq
  have hwf := cS5_wf (k := (n + 33)) (n := (n + 34)) (t := (n + 1)) hwf (by omega) zupS_self (by omega)
  have hs := (cS5_old (k := (n + 33)) (n := (n + 34)) (t := (n + 1)) (q := k) (by omega) (by omega)).trans hs
  have hq := (cS5_old (k := (n + 33)) (n := (n + 34)) (t := (n + 1)) (q := (n + 32)) (by omega) (by omega)).trans hq
  have hq9 := hq
  have hwf := zWf_put (i := (0 : Int32).toNatClampNeg) hwf (show (n + 32) < _ by omega) hq9 (show (n + 33) < _ by omega)
  have hs := (zupS_ne (k := (n + 32)) (sh := (2, 4, 3, (fun j => if j = (0 : Int32).toNatClampNeg then some (n + 33) else zn j))) (q := k) (by omega)).trans hs
  have hq : _ = _ := zupS_put (i := (0 : Int32).toNatClampNeg) (x := (n + 33)) hq9
  have hwf := zWf_new (sh := (0, 5, 0, zn)) hwf (fun j r h => by cases (show (none : Option Nat) = some r from h))
  have hs := (zupS_ne (k := (n + 38)) (sh := (0, 5, 0, zn)) (q := k) (by omega)).trans hs
  have hq := (zupS_ne (k := (n + 38)) (sh := (0, 5, 0, zn)) (q := (n + 32)) (by omega)).trans hq
  have hwf := cS5_wf (k := (n + 38)) (n := (n + 39)) (t := (n + 1)) hwf (by omega) zupS_self (by omega)
  have hs := (cS5_old (k := (n + 38)) (n := (n + 39)) (t := (n + 1)) (q := k) (by omega) (by omega)).trans hs
  have hq := (cS5_old (k := (n + 38)) (n := (n + 39)) (t := (n + 1)) (q := (n + 32)) (by omega) (by omega)).trans hq
  have hq9 := hq
  have hwf := zWf_put (i := (1 : Int32).toNatClampNeg) hwf (show (n + 32) < _ by omega) hq9 (show (n + 38) < _ by omega)
  have hs := (zupS_ne (k := (n + 32)) (sh := (2, 4, 3, (fun j => if j = (1 : Int32).toNatClampNeg then some (n + 38) else (fun j => if j = (0 : Int32).toNatClampNeg then some (n + 33) else zn j) j))) (q := k) (by omega)).trans hs
  have hq : _ = _ := zupS_put (i := (1 : Int32).toNatClampNeg) (x := (n + 38)) hq9
  have hwf := zWf_new (sh := (0, 5, 0, zn)) hwf (fun j r h => by cases (show (none : Option Nat) = some r from h))
  have hs := (zupS_ne (k := (n + 43)) (sh := (0, 5, 0, zn)) (q := k) (by omega)).trans hs
  have hq := (zupS_ne (k := (n + 43)) (sh := (0, 5, 0, zn)) (q := (n + 32)) (by omega)).trans hq
  have hwf := cS5_wf (k := (n + 43)) (n := (n + 44)) (t := (n + 1)) hwf (by omega) zupS_self (by omega)
  have hs := (cS5_old (k := (n + 43)) (n := (n + 44)) (t := (n + 1)) (q := k) (by omega) (by omega)).trans hs
  have hq := (cS5_old (k := (n + 43)) (n := (n + 44)) (t := (n + 1)) (q := (n + 32)) (by omega) (by omega)).trans hq
  have hq9 := hq
  have hwf := zWf_put (i := (2 : Int32).toNatClampNeg) hwf (show (n + 32) < _ by omega) hq9 (show (n + 43) < _ by omega)
  have hs := (zupS_ne (k := (n + 32)) (sh := (2, 4, 3, (fun j => if j = (2 : Int32).toNatClampNeg then some (n + 43) else (fun j => if j = (1 : Int32).toNatClampNeg then some (n + 38) else (fun j => if j = (0 : Int32).toNatClampNeg then some (n + 33) else zn j) j) j))) (q := k) (by omega)).trans hs
  have hq : _ = _ := zupS_put (i := (2 : Int32).toNatClampNeg) (x := (n + 43)) hq9
  have hs9 := hs
  have hwf := zWf_put (i := 8) hwf (by omega) hs9 (show (n + 32) < _ by omega)
  have hs : _ = _ := zupS_put (i := 8) (x := (n + 32)) hs9
  have hwf := zWf_new (sh := (0, 2, 0, zn)) hwf (fun j r h => by cases (show (none : Option Nat) = some r from h))
  have hs := (zupS_ne (k := (n + 48)) (sh := (0, 2, 0, zn)) (q := k) (by omega)).trans hs
  have hq := (zupS_ne (k := (n + 48)) (sh := (0, 2, 0, zn)) (q := (n + 32)) (by omega)).trans hq
  have hwf := cS2_wf (k := (n + 48)) (n := (n + 49)) (t := (n + 1)) hwf (by omega) zupS_self (by omega)
  have hs := (cS2_old (k := (n + 48)) (n := (n + 49)) (t := (n + 1)) (q := k) (by omega) (by omega)).trans hs
  have hq := (cS2_old (k := (n + 48)) (n := (n + 49)) (t := (n + 1)) (q := (n + 32)) (by omega) (by omega)).trans hq
  have hs9 := hs
  have hwf := zWf_put (i := 10) hwf (by omega) hs9 (show (n + 48) < _ by omega)
  have hs : _ = _ := zupS_put (i := 10) (x := (n + 48)) hs9
  have hwf := zWf_new (sh := (0, 0, 0, zn)) hwf (fun j r h => by cases (show (none : Option Nat) = some r from h))
  have hs := (zupS_ne (k := (n + 53)) (sh := (0, 0, 0, zn)) (q := k) (by omega)).trans hs
  have hq := (zupS_ne (k := (n + 53)) (sh := (0, 0, 0, zn)) (q := (n + 32)) (by omega)).trans hq
  have hwf := cS0_wf (k := (n + 53)) (n := (n + 54)) (t := (n + 1)) hwf (by omega) zupS_self (by omega)
  have hs := (cS0_old (k := (n + 53)) (n := (n + 54)) (t := (n + 1)) (q := k) (by omega) (by omega)).trans hs
  have hq := (cS0_old (k := (n + 53)) (n := (n + 54)) (t := (n + 1)) (q := (n + 32)) (by omega) (by omega)).trans hq
  have hs9 := hs
  have hwf := zWf_put (i := 11) hwf (by omega) hs9 (show (n + 53) < _ by omega)
  have hs : _ = _ := zupS_put (i := 11) (x := (n + 53)) hs9
  have hwf := zWf_new (sh := (0, 4, 0, zn)) hwf (fun j r h => by cases (show (none : Option Nat) = some r from h))
  have hs := (zupS_ne (k := (n + 56)) (sh := (0, 4, 0, zn)) (q := k) (by omega)).trans hs
  have hq := (zupS_ne (k := (n + 56)) (sh := (0, 4, 0, zn)) (q := (n + 32)) (by omega)).trans hq
  have hwf := cS4_wf (k := (n + 56)) (n := (n + 57)) (t := (n + 1)) (a := (n + 27)) hwf (by omega) zupS_self (by omega) (by omega)
  have hs := (cS4_old (k := (n + 56)) (n := (n + 57)) (t := (n + 1)) (a := (n + 27)) (q := k) (by omega) (by omega)).trans hs
  have hq := (cS4_old (k := (n + 56)) (n := (n + 57)) (t := (n + 1)) (a := (n + 27)) (q := (n + 32)) (by omega) (by omega)).trans hq
  have hs9 := hs
  have hwf := zWf_put (i := 12) hwf (by omega) hs9 (show (n + 56) < _ by omega)
  have hs : _ = _ := zupS_put (i := 12) (x := (n + 56)) hs9
  have hwf := zWf_new (sh := (0, 6, 0, zn)) hwf (fun j r h => by cases (show (none : Option Nat) = some r from h))
  have hs := (zupS_ne (k := (n + 57)) (sh := (0, 6, 0, zn)) (q := k) (by omega)).trans hs
  have hq := (zupS_ne (k := (n + 57)) (sh := (0, 6, 0, zn)) (q := (n + 32)) (by omega)).trans hq
  have hwf := cS6_wf (k := (n + 57)) (n := (n + 58)) (t := (n + 1)) hwf (by omega) zupS_self (by omega)
  have hs := (cS6_old (k := (n + 57)) (n := (n + 58)) (t := (n + 1)) (q := k) (by omega) (by omega)).trans hs
  have hq := (cS6_old (k := (n + 57)) (n := (n + 58)) (t := (n + 1)) (q := (n + 32)) (by omega) (by omega)).trans hq
  have hs9 := hs
  have hwf := zWf_put (i := 13) hwf (by omega) hs9 (show (n + 57) < _ by omega)
  have hs : _ = _ := zupS_put (i := 13) (x := (n + 57)) hs9
  exact hwf
