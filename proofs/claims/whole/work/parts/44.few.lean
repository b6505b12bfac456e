/-! few, where the gathering is not made yet -/
section ZFEW
variable {y y' : MethodName} {cc cc' : ByteArray} {nL nL' : Nat} {ret ret' : Option FieldType} {d d' pc idx b ci na : Nat} {L st stk As : List Value} {n n' : Nat} {S S' : Nat → zSh} {μ μ' : zMem} {o : zO} {res : Option Value ⊕ String} {ca cb : Nat}
theorem zA_iload_n {i : Fin 4} {x : Int32} (dg : decode cc pc = .ok (.iload_n i, 1)) (hL : L[(i : Nat)]? = some (.int x)) (k : zAW y cc nL ret d (pc + 1) (L) (.int x :: st) n S (μ) (o)) : zAW y cc nL ret d (pc) (L) (st) n S (μ) (o) := fun p l e R s m args below meth c D A tc adK adV C σ0 n0 σ H locs ls cells slots mc ms hH hS hl hB => lv_iload_n C.1 C.2.1 dg rfl (zL_at hl hL (fun h => by cases h)) (k p l e R s m args below meth c D A tc adK adV C σ0 n0 σ H locs ls cells slots mc ms hH hS hl hB)
theorem zA_iload {i : Nat} {x : Int32} (dg : decode cc pc = .ok (.iload i, 2)) (hL : L[i]? = some (.int x)) (k : zAW y cc nL ret d (pc + 2) (L) (.int x :: st) n S (μ) (o)) : zAW y cc nL ret d (pc) (L) (st) n S (μ) (o) := fun p l e R s m args below meth c D A tc adK adV C σ0 n0 σ H locs ls cells slots mc ms hH hS hl hB => lv_iload C.1 C.2.1 dg (zL_at hl hL (fun h => by cases h)) (k p l e R s m args below meth c D A tc adK adV C σ0 n0 σ H locs ls cells slots mc ms hH hS hl hB)
theorem zA_istore {i : Nat} {x : Int32} {L' : List Value} (dg : decode cc pc = .ok (.istore i, 2)) (hn : i < nL) (hL : L.set i (.int x) = L') (k : zAW y cc nL ret d (pc + 2) (L') (st) n S (μ) (o)) : zAW y cc nL ret d (pc) (L) (.int x :: st) n S (μ) (o) := fun p l e R s m args below meth c D A tc adK adV C σ0 n0 σ H locs ls cells slots mc ms hH hS hl hB => lv_istore C.1 C.2.1 dg hl.1 hn rfl (fun ls' h' => (k p l e R s m args below meth c D A tc adK adV C σ0 n0 σ H locs ls' cells slots mc ms hH hS (hL ▸ zL_set (v := .int x) hl rfl rfl h') hB))
theorem zA_ishl {a b : Int32} (dg : decode cc pc = .ok (.ishl, 1)) (k : zAW y cc nL ret d (pc + 1) (L) (.int (zshl a b) :: st) n S (μ) (o)) : zAW y cc nL ret d (pc) (L) (.int b :: .int a :: st) n S (μ) (o) := fun p l e R s m args below meth c D A tc adK adV C σ0 n0 σ H locs ls cells slots mc ms hH hS hl hB => lv_ishl C.1 C.2.1 dg (k p l e R s m args below meth c D A tc adK adV C σ0 n0 σ H locs ls cells slots mc ms hH hS hl hB)
theorem zA_locals {L' : List Value} (hs : ∀ (i : Nat) (v : Value), L'[i]? = some v → v ≠ .null → L[i]? = some v) (k : zAW y cc nL ret d (pc) (L') (st) n S (μ) (o)) : zAW y cc nL ret d (pc) (L) (st) n S (μ) (o) := fun p l e R s m args below meth c D A tc adK adV C σ0 n0 σ H locs ls cells slots mc ms hH hS hl hB => (k p l e R s m args below meth c D A tc adK adV C σ0 n0 σ H locs ls cells slots mc ms hH hS (zL_sub hl hs) hB)
theorem zA_if_lt_f {x : Int32} {off : Int} {tgt : Nat} (dg : decode cc pc = .ok (.ifCond .lt off, 3)) (ht : (pc : Int) + off = (tgt : Int)) (h9 : ¬ x < 0) (k : zAW y cc nL ret d (pc + 3) L st n S μ o) : zAW y cc nL ret d pc L (.int x :: st) n S μ o := fun p l e R s m args below meth c D A tc adK adV C σ0 n0 σ H locs ls cells slots mc ms hH hS hl hB => lv_if_lt C.1 C.2.1 dg ht (fun h => absurd h h9) (fun _ => k p l e R s m args below meth c D A tc adK adV C σ0 n0 σ H locs ls cells slots mc ms hH hS hl hB)
theorem zA_icmp_ge_f {x w : Int32} {off : Int} {tgt : Nat} (dg : decode cc pc = .ok (.if_icmp .ge off, 3)) (ht : (pc : Int) + off = (tgt : Int)) (h9 : ¬ w ≤ x) (k : zAW y cc nL ret d (pc + 3) L st n S μ o) : zAW y cc nL ret d pc L (.int w :: .int x :: st) n S μ o := fun p l e R s m args below meth c D A tc adK adV C σ0 n0 σ H locs ls cells slots mc ms hH hS hl hB => lv_icmp_ge C.1 C.2.1 dg ht (fun h => absurd h h9) (fun _ => k p l e R s m args below meth c D A tc adK adV C σ0 n0 σ H locs ls cells slots mc ms hH hS hl hB)
theorem zA_icmp_lt_f {x w : Int32} {off : Int} {tgt : Nat} (dg : decode cc pc = .ok (.if_icmp .lt off, 3)) (ht : (pc : Int) + off = (tgt : Int)) (h9 : ¬ x < w) (k : zAW y cc nL ret d (pc + 3) L st n S μ o) : zAW y cc nL ret d pc L (.int w :: .int x :: st) n S μ o := fun p l e R s m args below meth c D A tc adK adV C σ0 n0 σ H locs ls cells slots mc ms hH hS hl hB => lv_icmp_lt C.1 C.2.1 dg ht (fun h => absurd h h9) (fun _ => k p l e R s m args below meth c D A tc adK adV C σ0 n0 σ H locs ls cells slots mc ms hH hS hl hB)
theorem zA_icmp_le_t {x w : Int32} {off : Int} {tgt : Nat} (dg : decode cc pc = .ok (.if_icmp .le off, 3)) (ht : (pc : Int) + off = (tgt : Int)) (h9 : x ≤ w) (k : zAW y cc nL ret d (tgt) L st n S μ o) : zAW y cc nL ret d pc L (.int w :: .int x :: st) n S μ o := fun p l e R s m args below meth c D A tc adK adV C σ0 n0 σ H locs ls cells slots mc ms hH hS hl hB => lv_icmp_le C.1 C.2.1 dg ht (fun _ => k p l e R s m args below meth c D A tc adK adV C σ0 n0 σ H locs ls cells slots mc ms hH hS hl hB) (fun h => absurd h9 h)
theorem zA_ifnonnullN {off : Int} (dg : decode cc pc = .ok (.ifnonnull off, 3)) (k : zAW y cc nL ret d (pc + 3) L st n S μ o) : zAW y cc nL ret d pc L (.null :: st) n S μ o := fun p l e R s m args below meth c D A tc adK adV C σ0 n0 σ H locs ls cells slots mc ms hH hS hl hB => lv_ifnonnullN C.1 C.2.1 dg (k p l e R s m args below meth c D A tc adK adV C σ0 n0 σ H locs ls cells slots mc ms hH hS hl hB)
theorem zA_get {b ci z j idx : Nat} {rf : Nat → Option Nat} {v : Value} (hf : zFd y.cls idx ci j) (hb : b < n) (hs : S b = (0, ci, z, rf)) (hv : ∀ σ, zFld σ ci rf (μ b) j = cv σ v) (dg : decode cc pc = .ok (.getfield idx, 3)) (k : zAW y cc nL ret d (pc + 3) (L) (v :: st) n S (μ) (o)) : zAW y cc nL ret d (pc) (L) (.ref b :: st) n S (μ) (o) := by
  intro p l e R s m args below meth c D A tc adK adV C σ0 n0 σ H locs ls cells slots mc ms hH hS hl hB
  obtain ⟨CC, T, N, h1, h2, h3, h4, h5, h6, -⟩ := hf
  obtain ⟨hx, hbb, -, hown, -, -, -, -, hts, hK, -, hG, -⟩ := id C
  have he := zW_get' (σ := σ) (tc := tc) (μ := μ) hb hs
  rw [zE_obj] at he
  have hvv : (zFs σ ci rf (μ b))[j]? = some (cv σ v) := by
    unfold zFs
    rw [List.getElem?_map, List.getElem?_range (by omega), Option.map_some, hv]
  rcases h6 with h6 | ⟨host, h6⟩
  · exact va_get hx hbb hts h4 hown hK hH.2.2.1 b he h1 j h3 (hts _ h6) (fun x hx => by rw [h5] at hx; exact hx) hvv dg (k p l e R s m args below meth c D A tc adK adV C σ0 n0 σ H locs ls cells slots mc ms hH hS hl hB)
  · exact va_getN hx hbb hts h4 hown hK hH.2.2.1 b he h1 j h3 (va_Nw.use rfl (hG.2.2.2.2.1 _ h6)) (fun x hx => by rw [h5] at hx; exact hx) hvv dg (k p l e R s m args below meth c D A tc adK adV C σ0 n0 σ H locs ls cells slots mc ms hH hS hl hB)
theorem zA_geti {b ci z j idx : Nat} {rf : Nat → Option Nat} (hf : zFd y.cls idx ci j) (hb : b < n) (hs : S b = (0, ci, z, rf)) (hi : zInt ci j = true) (dg : decode cc pc = .ok (.getfield idx, 3)) (k : zAW y cc nL ret d (pc + 3) (L) (.int (μ b j) :: st) n S (μ) (o)) : zAW y cc nL ret d (pc) (L) (.ref b :: st) n S (μ) (o) := zA_get hf hb hs (fun σ => by unfold zFld; rw [if_pos hi]; rfl) dg k
theorem zA_getn {b ci z j idx : Nat} {rf : Nat → Option Nat} (hf : zFd y.cls idx ci j) (hb : b < n) (hs : S b = (0, ci, z, rf)) (hi : zInt ci j = false) (hr : rf j = none) (dg : decode cc pc = .ok (.getfield idx, 3)) (k : zAW y cc nL ret d (pc + 3) (L) (.null :: st) n S (μ) (o)) : zAW y cc nL ret d (pc) (L) (.ref b :: st) n S (μ) (o) := zA_get (v := .null) hf hb hs (fun σ => by unfold zFld; rw [if_neg (by rw [hi]; exact Bool.false_ne_true), hr]; rfl) dg k
theorem zA_callV {v : Int32} (hw : zCv y.cls idx y' cc' nL' ret' na ci) (hM : zMR y' cc' nL' ret' d' (.ref b :: As) n S μ (some (0, v, μ'))) (hd : d' + 1 ≤ d) (hb : b < n) {z : Nat} {rf : Nat → Option Nat} (hs : S b = (0, ci, z, rf)) (hn : As.length = na) (hst : stk = As.reverse ++ .ref b :: st) (hrm : (st.map (fun v => v.category)).sum ≤ 8) (dg : decode cc pc = .ok (.invokevirtual idx, 3))
    (kk : zAW y cc nL ret d (pc + 3) L (zpush ret' v st) n S μ' o) : zAW y cc nL ret d pc L stk n S μ o := by
  intro p l e R s m args below meth c D A tc adK adV C σ0 n0 σ H locs ls cells slots mc ms hH hS hl hB
  subst hst
  obtain ⟨⟨h1, h2, h3, h4, h5⟩, h6, h7, h8⟩ := hw
  obtain ⟨hx, hbb, hml, hown, -, -, -, -, hts, hK, hA, hG, hst, hfr, hlo⟩ := id C
  have hMM := zM_met (v := zRv ret' v) rfl (hM _ rfl) l D tc adK adV σ H.size hst
  obtain ⟨Q9, hQ9, hQc⟩ : ∃ Q9, zCl[ci]? = some Q9 ∧ Q9.1 = y'.cls := by
    cases hc9 : zCl[ci]? with
    | none => rw [hc9] at h8; cases h8
    | some Q9 => rw [hc9] at h8; exact ⟨Q9, rfl, Option.some.inj h8⟩
  have he := zW_get' (σ := σ) (tc := tc) (μ := μ) hb hs
  rw [zE_obj] at he
  have hrecv := va_recv hK hH.2.2.1 hQ9 he
  rw [hQc] at hrecv
  have hpre : PreV s H y'.cls (σ b) (zPc D tc adK adV σ (.ref b :: As) n S μ H.size) (As.map (cv σ)) := ⟨zPc_blind, hrecv, fun U hU hW => z_pre C hH hS (avs := .ref b :: As) U hU hW⟩
  have hstk : (F0 m pc ls ((As.reverse ++ Value.ref b :: st).map (cv σ))).stack = (As.map (cv σ)).reverse ++ .ref (σ b) :: st.map (cv σ) := zRmap
  have hroom : (zRm d' 0 0).frames + 1 ≤ R.frames ∧ 8 + (nL' + 11) + (zRm d' 0 0).locals ≤ R.locals := ⟨Nat.le_trans hd hfr, by show 8 + (nL' + 11) + 41 * d' ≤ R.locals; omega⟩
  have hrun : va_Run p l e R s m args below meth c H locs cells slots 0 0 (F0 m pc ls ((As.reverse ++ Value.ref b :: st).map (cv σ))) (st.map (cv σ)) (zQc D (zA σ n H.size) tc adK σ n (zOut ret' n S (0, v, μ')) (Value.ref (σ b) :: As.map (cv σ)).toArray) (zA σ n H.size) := by
    rcases h5 with h5 | ⟨host, h5⟩
    · exact va_runV ⟨hx, hbb, hml, hown, hts⟩ hMM ⟨callB_of na hts (zWs_good h1) rfl rfl rfl (hts _ h2) (hts _ h5) h4 hroom, hts _ h6, hts _ h7⟩ hpre rfl (by rw [List.length_map, hn]) hl.1.1 hstk (zroom hrm) dg ⟨by have := hB; omega, by have := hB; omega⟩
    · exact va_runVN ⟨hx, hbb, hml, hown, hts⟩ hMM ⟨va_cnB na hts (zWs_good h1) rfl rfl rfl (hG.2.2.2.2.1 _ h5) (hts _ h2) h4 hroom, hts _ h6, hts _ h7⟩ hpre rfl (by rw [List.length_map, hn]) hl.1.1 hstk (zroom hrm) dg ⟨by have := hB; omega, by have := hB; omega⟩
  refine z_cont C hH hS (v := zRv ret' v) (o1 := zOut ret' n S (0, v, μ')) rfl (Nat.le_refl _) hrun (fun σ1 H1 locs1 hH1 _ hσ hS1 => ?_)
  obtain rfl := hσ rfl
  rw [zpush_map]
  exact kk p l e R s m args below meth c D A tc adK adV C σ0 n0 σ1 H1 locs1 ls _ _ mc ms hH1 hS1 hl hB
theorem zA_callS {v : Int32} (hw : zCs y.cls idx y' cc' nL' ret' na) (hM : zMR y' cc' nL' ret' d' As n S μ (some (0, v, μ'))) (hd : d' + 1 ≤ d) (hn : As.length = na) (hst : stk = As.reverse ++ st) (hrm : (st.map (fun v => v.category)).sum ≤ 8) (dg : decode cc pc = .ok (.invokestatic idx, 3))
    (kk : zAW y cc nL ret d (pc + 3) L (zpush ret' v st) n S μ' o) : zAW y cc nL ret d pc L stk n S μ o := by
  intro p l e R s m args below meth c D A tc adK adV C σ0 n0 σ H locs ls cells slots mc ms hH hS hl hB
  subst hst
  obtain ⟨⟨h1, h2, h3, h4, h5⟩, h6⟩ := hw
  obtain ⟨hx, hbb, hml, hown, -, -, -, -, hts, hK, hA, hG, hst, hfr, hlo⟩ := id C
  have hMM := zM_met (v := zRv ret' v) rfl (hM _ rfl) l D tc adK adV σ H.size hst
  have hpre : PreS s H (zPc D tc adK adV σ As n S μ H.size) (As.map (cv σ)) := ⟨zPc_blind, fun U hU hW => z_pre C hH hS (avs := As) U hU hW⟩
  have hstk : (F0 m pc ls ((As.reverse ++ st).map (cv σ))).stack = (As.map (cv σ)).reverse ++ st.map (cv σ) := zRmap
  have hroom : (zRm d' 0 0).frames + 1 ≤ R.frames ∧ 8 + (nL' + 11) + (zRm d' 0 0).locals ≤ R.locals := ⟨Nat.le_trans hd hfr, by show 8 + (nL' + 11) + 41 * d' ≤ R.locals; omega⟩
  have hrun : va_Run p l e R s m args below meth c H locs cells slots 0 0 (F0 m pc ls ((As.reverse ++ st).map (cv σ))) (st.map (cv σ)) (zQc D (zA σ n H.size) tc adK σ n (zOut ret' n S (0, v, μ')) (As.map (cv σ)).toArray) (zA σ n H.size) := by
    rcases h5 with h5 | ⟨host, h5⟩
    · exact va_runS ⟨hx, hbb, hml, hown, hts⟩ hMM ⟨callB_of na hts (zWs_good h1) rfl rfl rfl (hts _ h2) (hts _ h5) h4 hroom, hts _ h6⟩ hpre rfl (by rw [List.length_map, hn]) hl.1.1 hstk (zroom hrm) dg ⟨by have := hB; omega, by have := hB; omega⟩
    · exact va_runSN ⟨hx, hbb, hml, hown, hts⟩ hMM ⟨va_cnB na hts (zWs_good h1) rfl rfl rfl (hG.2.2.2.2.1 _ h5) (hts _ h2) h4 hroom, hts _ h6, trivial⟩ hpre rfl (by rw [List.length_map, hn]) hl.1.1 hstk (zroom hrm) dg ⟨by have := hB; omega, by have := hB; omega⟩
  refine z_cont C hH hS (v := zRv ret' v) (o1 := zOut ret' n S (0, v, μ')) rfl (Nat.le_refl _) hrun (fun σ1 H1 locs1 hH1 _ hσ hS1 => ?_)
  obtain rfl := hσ rfl
  rw [zpush_map]
  exact kk p l e R s m args below meth c D A tc adK adV C σ0 n0 σ1 H1 locs1 ls _ _ mc ms hH1 hS1 hl hB
theorem zMR_eq {avs : List Value} {r r' : zRes} (e : r = r') (h : zMR y cc nL ret d avs n S μ r) : zMR y cc nL ret d avs n S μ r' := e ▸ h
end ZFEW
def fewT (x1 x2 x3 : Int32) (μ15 : zMem) : zRes := bnd0 (f1_gather x1 x2 μ15) (fun (v16 : Int32) (μ17 : zMem) => zlet (fun (s18 : Int32) (μ19 : zMem) => some (0, s18, μ19)) (fun j20 => if x3 = 0 then bnd0 (f1_mostWorks μ17) (fun (v23 : Int32) (μ24 : zMem) => j20 v23 μ24) else j20 (μ17 69 10) μ17))
def f8_fewE (x1 : Int32) (x2 : Int32) (x3 : Int32) (μ : zMem) : zRes := bnd0 (fJ6_bitCount_0f7a4 x1 μ) (fun (v1 : Int32) (μ2 : zMem) => zlet (some (1, 0, μ2)) (fun j3 => if x1 < 0 then j3 else if (zshl (1 : Int32) (μ2 2 1)) ≤ x1 then j3 else if v1 < (2 : Int32) then j3 else if v1 ≤ (4 : Int32) then bnd (f8_needQuestion x2 μ2) (fun (v12 : Int32) (μ13 : zMem) => bnd (f8_needWhat x3 (1 : Int32) μ13) (fun (v14 : Int32) (μ15 : zMem) => none)) else j3))
set_option maxHeartbeats 1000000 in
theorem few_tail (x1 x2 x3 v1 : Int32) (μ15 : zMem) : zR yX8_few cX8_few 5 (some .int) 7 79 [.ref 0, .int x1, .int x2, .int x3, .int v1] [] (nX true) (SX true) μ15 (fewT x1 x2 x3 μ15) := by
  unfold fewT
  refine z_aload_n (pc := 79) dX8_few_79 rfl ?_
  refine z_getr (pc := 80) fdX8_88 (nx_lt (by decide)) (sx_0 true) rfl rfl dX8_few_80 ?_
  refine z_aload_n (pc := 83) dX8_few_83 rfl ?_
  refine z_getr (pc := 84) fdX8_44 (nx_lt (by decide)) (sx_0 true) rfl rfl dX8_few_84 ?_
  refine z_iload_n (pc := 87) dX8_few_87 rfl ?_
  refine z_iload_n (pc := 88) dX8_few_88 rfl ?_
  refine z_callV (As := [.ref 23, .int x1, .int x2]) (pc := 89) (ret' := none) kvX8_305 (t1_gather _ _ _) (by decide) (by decide) (sx_69 true)  rfl rfl (Nat.le_of_ble_eq_true rfl) dX8_few_89 (fun v16 μ17 => ?_)
  refine z_iload_n (pc := 92) dX8_few_92 rfl ?_
  refine z_let (fun (j : Int32 → zMem → zRes) => ∀ (s18 : Int32) (μ19 : zMem), zR yX8_few cX8_few 5 (some .int) 7 113 [.null, .null, .null, .null, .null] [.int s18] (nX true) (SX true) μ19 (j s18 μ19)) ?_ (fun j20 hj20 => ?_)
  · intro s18 μ19
    exact z_iret (pc := 113) rfl dX8_few_113
  · refine z_if_ne (pc := 93) (tgt := 106) dX8_few_93 (by decide) (fun c21 => ?_) (fun c22 => ?_)
    · refine z_aload_n (pc := 106) dX8_few_106 rfl ?_
      refine z_getr (pc := 107) fdX8_88 (nx_lt (by decide)) (sx_0 true) rfl rfl dX8_few_107 ?_
      refine z_geti (pc := 110) fdX8_312 (by decide) (sx_69 true) rfl dX8_few_110 ?_
      refine z_loc (L' := [.null, .null, .null, .null, .null]) ⟨Or.inl rfl, ⟨Or.inl rfl, ⟨Or.inl rfl, ⟨Or.inl rfl, ⟨Or.inl rfl, trivial⟩⟩⟩⟩⟩ ?_
      exact hj20 (μ17 69 10) μ17
    · refine z_aload_n (pc := 96) dX8_few_96 rfl ?_
      refine z_getr (pc := 97) fdX8_88 (nx_lt (by decide)) (sx_0 true) rfl rfl dX8_few_97 ?_
      refine z_callV (As := []) (pc := 100) (ret' := some .int) kvX8_309 (t1_mostWorks _) (by decide) (by decide) (sx_69 true)  rfl rfl (Nat.le_of_ble_eq_true rfl) dX8_few_100 (fun v23 μ24 => ?_)
      refine z_goto (pc := 103) (tgt := 113) dX8_few_103 (by decide) ?_
      refine z_loc (L' := [.null, .null, .null, .null, .null]) ⟨Or.inl rfl, ⟨Or.inl rfl, ⟨Or.inl rfl, ⟨Or.inl rfl, ⟨Or.inl rfl, trivial⟩⟩⟩⟩⟩ ?_
      exact hj20 v23 μ24
set_option maxHeartbeats 1000000 in
theorem t8_fewE (x1 : Int32) (x2 : Int32) (x3 : Int32) (μ : zMem) : zMR yX8_few cX8_few 5 (some .int) 7 [.ref 0, .int x1, .int x2, .int x3] (nX false) (SX false) μ (f8_fewE x1 x2 x3 μ) := by
  refine zMR_of (by decide +kernel) rfl (Nat.le_of_ble_eq_true rfl) (L := [.ref 0, .int x1, .int x2, .int x3, .null]) rfl ?_
  unfold f8_fewE
  refine z_iload_n (pc := 0) dX8_few_0 rfl ?_
  refine z_callS (As := [.int x1]) (pc := 1) (ret' := some .int) ksX8_162 (tJ6_bitCount_0f7a4 _ _) (by decide)  rfl rfl (Nat.le_of_ble_eq_true rfl) dX8_few_1 (fun v1 μ2 => ?_)
  refine z_istore (pc := 4) (L' := [.ref 0, .int x1, .int x2, .int x3, .int v1]) dX8_few_4 (by decide) rfl ?_
  refine z_iload_n (pc := 6) dX8_few_6 rfl ?_
  refine z_let (fun (j : zRes) => zR yX8_few cX8_few 5 (some .int) 7 35 [.null, .null, .null, .null, .null] [] (nX false) (SX false) μ2 (j)) ?_ (fun j3 hj3 => ?_)
  · exact z_throwW (pc := 35) (ex := 0) (i := 13) (names := zNm)  rfl rfl (by decide) (by decide) ztf_1 ztn ztX8_1.1 zti_1 ztX8_1.2.1 ztX8_1.2.2 (Nat.le_of_ble_eq_true rfl) dX8_few_35 dX8_few_38 dX8_few_39 dX8_few_42 dX8_few_45
  · refine z_if_lt (pc := 7) (tgt := 35) dX8_few_7 (by decide) (fun c4 => ?_) (fun c5 => ?_)
    · refine z_loc (L' := [.null, .null, .null, .null, .null]) ⟨Or.inl rfl, ⟨Or.inl rfl, ⟨Or.inl rfl, ⟨Or.inl rfl, ⟨Or.inl rfl, trivial⟩⟩⟩⟩⟩ ?_
      exact hj3
    · refine z_iload_n (pc := 10) dX8_few_10 rfl ?_
      refine z_iconst (pc := 11) (1 : Int32) dX8_few_11 (by decide) ?_
      refine z_aload_n (pc := 12) dX8_few_12 rfl ?_
      refine z_getr (pc := 13) fdX8_23 (nx_lt (by decide)) (sx_0 false) rfl rfl dX8_few_13 ?_
      refine z_geti (pc := 16) fdX8_116 (nx_lt (by decide)) (sx_2 false) rfl dX8_few_16 ?_
      refine z_ishl (pc := 19) dX8_few_19 ?_
      refine z_icmp_ge (pc := 20) (tgt := 35) dX8_few_20 (by decide) (fun c6 => ?_) (fun c7 => ?_)
      · refine z_loc (L' := [.null, .null, .null, .null, .null]) ⟨Or.inl rfl, ⟨Or.inl rfl, ⟨Or.inl rfl, ⟨Or.inl rfl, ⟨Or.inl rfl, trivial⟩⟩⟩⟩⟩ ?_
        exact hj3
      · refine z_iload (pc := 23) dX8_few_23 rfl ?_
        refine z_iconst (pc := 25) (2 : Int32) dX8_few_25 (by decide) ?_
        refine z_icmp_lt (pc := 26) (tgt := 35) dX8_few_26 (by decide) (fun c8 => ?_) (fun c9 => ?_)
        · refine z_loc (L' := [.null, .null, .null, .null, .null]) ⟨Or.inl rfl, ⟨Or.inl rfl, ⟨Or.inl rfl, ⟨Or.inl rfl, ⟨Or.inl rfl, trivial⟩⟩⟩⟩⟩ ?_
          exact hj3
        · refine z_iload (pc := 29) dX8_few_29 rfl ?_
          refine z_iconst (pc := 31) (4 : Int32) dX8_few_31 (by decide) ?_
          refine z_icmp_le (pc := 32) (tgt := 46) dX8_few_32 (by decide) (fun c10 => ?_) (fun c11 => ?_)
          · refine z_aload_n (pc := 46) dX8_few_46 rfl ?_
            refine z_iload_n (pc := 47) dX8_few_47 rfl ?_
            refine z_callX (As := [.int x2]) (pc := 48) (ret' := none) kvX8_143 klX8_143 (t8_needQuestion _ _) (by decide) (nx_lt (by decide)) (sx_0 false)  rfl rfl (Nat.le_of_ble_eq_true rfl) dX8_few_48 (fun v12 μ13 => ?_)
            refine z_aload_n (pc := 51) dX8_few_51 rfl ?_
            refine z_iload_n (pc := 52) dX8_few_52 rfl ?_
            refine z_iconst (pc := 53) (1 : Int32) dX8_few_53 (by decide) ?_
            refine z_callX (As := [.int x3, .int (1 : Int32)]) (pc := 54) (ret' := none) kvX8_216 klX8_216 (t8_needWhat _ _ _) (by decide) (nx_lt (by decide)) (sx_0 false)  rfl rfl (Nat.le_of_ble_eq_true rfl) dX8_few_54 (fun v14 μ15 => ?_)
            exact fun q h => nomatch h
          · refine z_loc (L' := [.null, .null, .null, .null, .null]) ⟨Or.inl rfl, ⟨Or.inl rfl, ⟨Or.inl rfl, ⟨Or.inl rfl, ⟨Or.inl rfl, trivial⟩⟩⟩⟩⟩ ?_
            exact hj3
theorem zin_1 : Cond.instantiable RX1 11 ∈ zTb := (zTb_mem (zm_6 (List.mem_of_getElem? (i := 213) (by decide +kernel))) rfl)
theorem zii_1 : Cond.initialized RX1 ∈ zTb := (zTb_mem (zm_1 (List.mem_of_getElem? (i := 30) (by decide +kernel))) rfl)
theorem zdf_1 : ∀ j, j < 11 → defaultValue (zTy 1 j) = if zInt 1 j = true then .int 0 else .null := by decide +kernel
theorem knX8_300 : Cond.classLink RX8 300 RX1 ∈ zTb := (zTb_mem (zm_6 (List.mem_of_getElem? (i := 212) (by decide +kernel))) rfl)
theorem zin1 : Cond.instanceMethod yX1_init ∈ zTb := (zTb_mem (zm_6 (List.mem_of_getElem? (i := 215) (by decide +kernel))) rfl)
theorem zic1 : Cond.code yX1_init cX1_init 2 none ∈ zTb := (zTb_mem (zm_6 (List.mem_of_getElem? (i := 216) (by decide +kernel))) rfl)
theorem zid1 : yX1_init.cls ≠ "java/lang/invoke/MethodHandle" ∧ yX1_init.cls ≠ "java/lang/invoke/VarHandle" ∧ (parseMethodDescriptor yX1_init.desc).map (fun d => d.parameters.length) = some 1 := by decide +kernel
theorem kiX8_304 : zCk RX8 304 yX1_init cX1_init 2 none 1 := ⟨zic1, zii_1, by decide, zid1, (Or.inr ⟨"TwoHandles", (List.mem_filter.mpr ⟨zm_6 (List.mem_of_getElem? (i := 214) (by decide +kernel)), rfl⟩)⟩)⟩
theorem zfx {f g : Nat → Option Nat} (N : Nat) (h : ∀ j, j < N → f j = g j) (hf : ∀ j, f (j + N) = none) (hg : ∀ j, g (j + N) = none) : f = g := by
  funext j
  rcases Nat.lt_or_ge j N with h1 | h1
  · exact h j h1
  · obtain ⟨i, rfl⟩ := Nat.exists_eq_add_of_le h1
    rw [Nat.add_comm N i, hf, hg]
def zTail : List zSh → Prop
  | [] => True
  | s :: l => (∀ j, s.2.2.2 (j + 30) = none) ∧ zTail l
theorem zTail_at : ∀ (l : List zSh), zTail l → ∀ k j, (l.getD k (3, 0, 0, zn)).2.2.2 (j + 30) = none
  | [], _, _, _ => rfl
  | s :: l, h, 0, j => h.1 j
  | s :: l, h, k + 1, j => by rw [List.getD_cons_succ]; exact zTail_at l h.2 k j
theorem zTail_X : zTail (SXl false) := ⟨fun _ => rfl, ⟨fun _ => rfl, ⟨fun _ => rfl, ⟨fun _ => rfl, ⟨fun _ => rfl, ⟨fun _ => rfl, ⟨fun _ => rfl, ⟨fun _ => rfl, ⟨fun _ => rfl, ⟨fun _ => rfl, ⟨fun _ => rfl, ⟨fun _ => rfl, ⟨fun _ => rfl, ⟨fun _ => rfl, ⟨fun _ => rfl, ⟨fun _ => rfl, ⟨fun _ => rfl, ⟨fun _ => rfl, ⟨fun _ => rfl, ⟨fun _ => rfl, ⟨fun _ => rfl, ⟨fun _ => rfl, ⟨fun _ => rfl, ⟨fun _ => rfl, ⟨fun _ => rfl, ⟨fun _ => rfl, ⟨fun _ => rfl, ⟨fun _ => rfl, ⟨fun _ => rfl, ⟨fun _ => rfl, ⟨fun _ => rfl, ⟨fun _ => rfl, ⟨fun _ => rfl, ⟨fun _ => rfl, ⟨fun _ => rfl, ⟨fun _ => rfl, ⟨fun _ => rfl, ⟨fun _ => rfl, ⟨fun _ => rfl, ⟨fun _ => rfl, ⟨fun _ => rfl, ⟨fun _ => rfl, ⟨fun _ => rfl, ⟨fun _ => rfl, ⟨fun _ => rfl, ⟨fun _ => rfl, ⟨fun _ => rfl, ⟨fun _ => rfl, ⟨fun _ => rfl, ⟨fun _ => rfl, ⟨fun _ => rfl, ⟨fun _ => rfl, ⟨fun _ => rfl, ⟨fun _ => rfl, ⟨fun _ => rfl, ⟨fun _ => rfl, ⟨fun _ => rfl, ⟨fun _ => rfl, ⟨fun _ => rfl, ⟨fun _ => rfl, ⟨fun _ => rfl, ⟨fun _ => rfl, ⟨fun _ => rfl, ⟨fun _ => rfl, ⟨fun _ => rfl, ⟨fun _ => rfl, ⟨fun _ => rfl, ⟨fun _ => rfl, ⟨fun _ => rfl, ⟨fun _ => rfl, ⟨fun _ => rfl, ⟨fun _ => rfl, ⟨fun _ => rfl, ⟨fun _ => rfl, ⟨fun _ => rfl, ⟨fun _ => rfl, trivial⟩⟩⟩⟩⟩⟩⟩⟩⟩⟩⟩⟩⟩⟩⟩⟩⟩⟩⟩⟩⟩⟩⟩⟩⟩⟩⟩⟩⟩⟩⟩⟩⟩⟩⟩⟩⟩⟩⟩⟩⟩⟩⟩⟩⟩⟩⟩⟩⟩⟩⟩⟩⟩⟩⟩⟩⟩⟩⟩⟩⟩⟩⟩⟩⟩⟩⟩⟩⟩⟩⟩⟩⟩⟩⟩⟩
theorem zwfX : zWf (nX false) (SX false) := by
  have h1 : ∀ k, k < 69 → ∀ j, j < 30 → ((SX false k).2.2.2 j).all (fun r => decide (r < 69)) = true := by decide +kernel
  intro k j r hk h
  rcases Nat.lt_or_ge j 30 with hj | hj
  · have h2 := h1 k hk j hj
    rw [h] at h2
    exact of_decide_eq_true h2
  · obtain ⟨i, rfl⟩ := Nat.exists_eq_add_of_le hj
    have h3 : (SX false k).2.2.2 (i + 30) = none := zTail_at (SXl false) zTail_X k i
    rw [Nat.add_comm 30 i, h3] at h
    cases h
theorem sx_ft : ∀ k, k < 69 → k ≠ 0 → SX false k = SX true k := by
  intro k h h0
  match k with
  | 0 => exact absurd rfl h0
  | 1 => rfl
  | 2 => rfl
  | 3 => rfl
  | 4 => rfl
  | 5 => rfl
  | 6 => rfl
  | 7 => rfl
  | 8 => rfl
  | 9 => rfl
  | 10 => rfl
  | 11 => rfl
  | 12 => rfl
  | 13 => rfl
  | 14 => rfl
  | 15 => rfl
  | 16 => rfl
  | 17 => rfl
  | 18 => rfl
  | 19 => rfl
  | 20 => rfl
  | 21 => rfl
  | 22 => rfl
  | 23 => rfl
  | 24 => rfl
  | 25 => rfl
  | 26 => rfl
  | 27 => rfl
  | 28 => rfl
  | 29 => rfl
  | 30 => rfl
  | 31 => rfl
  | 32 => rfl
  | 33 => rfl
  | 34 => rfl
  | 35 => rfl
  | 36 => rfl
  | 37 => rfl
  | 38 => rfl
  | 39 => rfl
  | 40 => rfl
  | 41 => rfl
  | 42 => rfl
  | 43 => rfl
  | 44 => rfl
  | 45 => rfl
  | 46 => rfl
  | 47 => rfl
  | 48 => rfl
  | 49 => rfl
  | 50 => rfl
  | 51 => rfl
  | 52 => rfl
  | 53 => rfl
  | 54 => rfl
  | 55 => rfl
  | 56 => rfl
  | 57 => rfl
  | 58 => rfl
  | 59 => rfl
  | 60 => rfl
  | 61 => rfl
  | 62 => rfl
  | 63 => rfl
  | 64 => rfl
  | 65 => rfl
  | 66 => rfl
  | 67 => rfl
  | 68 => rfl
  | k + 69 => omega
theorem few_same {μ : zMem} : ∀ k, k < 76 → zupS (cS1 69 70 2 (zupS (SX false) 69 (0, 1, 0, zn))) 0 (0, 8, 0, fun i => if i = 14 then some 69 else xR0 false i) k = SX true k ∧ μ k = μ k := by
  intro k hk
  refine ⟨?_, rfl⟩
  by_cases h0 : k = 0
  · subst h0
    rw [zupS_self]
    exact congrArg (fun f => ((0, 8, 0, f) : zSh)) (zfx 30 (by decide +kernel) (fun _ => rfl) (fun _ => rfl))
  · rw [zupS_ne h0]
    rcases Nat.lt_or_ge k 69 with h1 | h1
    · rw [cS1_old (by omega) (by omega), zupS_ne (by omega)]
      exact sx_ft k h1 h0
    · obtain ⟨i, rfl⟩ := Nat.exists_eq_add_of_le h1
      match i with
      | 0 =>
        unfold cS1
        rw [zupS_self]
        exact congrArg (fun f => ((0, 1, 0, f) : zSh)) (zfx 30 (by decide +kernel) (fun _ => rfl) (fun _ => rfl))
      | 1 => rfl
      | 2 => rfl
      | 3 => rfl
      | 4 => rfl
      | 5 => rfl
      | 6 => rfl
      | i + 7 => omega
set_option maxHeartbeats 4000000 in
theorem t8_few0 {x1 x2 x3 v1 v5 v6 v : Int32} {μ μ9 : zMem} (hc : fJ6_bitCount_0f7a4 x1 μ = some (0, v1, μ)) (h1 : ¬ x1 < 0) (h2 : ¬ zshl (1 : Int32) (μ 2 1) ≤ x1) (h3 : ¬ v1 < (2 : Int32)) (h4 : v1 ≤ (4 : Int32)) (h5 : f8_needQuestion x2 μ = some (0, v5, μ)) (h6 : f8_needWhat x3 (1 : Int32) μ = some (0, v6, μ)) (hr : fewT x1 x2 x3 (cM1 69 70 (zup μ 69 (fun _ => 0))) = some (0, v, μ9)) : zM yX8_few cX8_few 5 (some .int) 7 [.ref 0, .int x1, .int x2, .int x3] (nX false) (SX false) μ (.inl (some (.int v)), nX true, SX true, μ9, 0 + 6 + 1, 0 + 19695 + 11) := by
  refine zM_of (by decide +kernel) (by simp [Value.category]) (by simp) (Nat.le_of_ble_eq_true rfl) ?_
  show zAW _ _ _ _ _ _ [.ref 0, .int x1, .int x2, .int x3, .null] _ _ _ _ _
  refine zA_iload_n (pc := 0) dX8_few_0 rfl ?_
  refine zA_callS (As := [.int x1]) (pc := 1) (ret' := some .int) ksX8_162 (zMR_eq hc (tJ6_bitCount_0f7a4 x1 μ)) (by decide)  rfl rfl (Nat.le_of_ble_eq_true rfl) dX8_few_1 ?_
  refine zA_istore (pc := 4) (L' := [.ref 0, .int x1, .int x2, .int x3, .int v1]) dX8_few_4 (by decide) rfl ?_
  refine zA_iload_n (pc := 6) dX8_few_6 rfl ?_
  refine zA_if_lt_f (pc := 7) (tgt := 35) dX8_few_7 (by decide) h1 ?_
  refine zA_iload_n (pc := 10) dX8_few_10 rfl ?_
  refine zA_iconst (pc := 11) (1 : Int32) dX8_few_11 (by decide) ?_
  refine zA_aload_n (pc := 12) dX8_few_12 rfl ?_
  refine zA_getr (pc := 13) fdX8_23 (show _ < 69 by decide) (sx_0 false) rfl rfl dX8_few_13 ?_
  refine zA_geti (pc := 16) fdX8_116 (show _ < 69 by decide) (sx_2 false) rfl dX8_few_16 ?_
  refine zA_ishl (pc := 19) dX8_few_19 ?_
  refine zA_icmp_ge_f (pc := 20) (tgt := 35) dX8_few_20 (by decide) h2 ?_
  refine zA_iload (pc := 23) dX8_few_23 rfl ?_
  refine zA_iconst (pc := 25) (2 : Int32) dX8_few_25 (by decide) ?_
  refine zA_icmp_lt_f (pc := 26) (tgt := 35) dX8_few_26 (by decide) h3 ?_
  refine zA_iload (pc := 29) dX8_few_29 rfl ?_
  refine zA_iconst (pc := 31) (4 : Int32) dX8_few_31 (by decide) ?_
  refine zA_icmp_le_t (pc := 32) (tgt := 46) dX8_few_32 (by decide) h4 ?_
  refine zA_aload_n (pc := 46) dX8_few_46 rfl ?_
  refine zA_iload_n (pc := 47) dX8_few_47 rfl ?_
  refine zA_callV (As := [.int x2]) (pc := 48) (ret' := none) kvX8_143 (zMR_eq h5 (t8_needQuestion x2 μ)) (by decide) (show _ < 69 by decide) (sx_0 false)  rfl rfl (Nat.le_of_ble_eq_true rfl) dX8_few_48 ?_
  refine zA_aload_n (pc := 51) dX8_few_51 rfl ?_
  refine zA_iload_n (pc := 52) dX8_few_52 rfl ?_
  refine zA_iconst (pc := 53) (1 : Int32) dX8_few_53 (by decide) ?_
  refine zA_callV (As := [.int x3, .int (1 : Int32)]) (pc := 54) (ret' := none) kvX8_216 (zMR_eq h6 (t8_needWhat x3 1 μ)) (by decide) (show _ < 69 by decide) (sx_0 false)  rfl rfl (Nat.le_of_ble_eq_true rfl) dX8_few_54 ?_
  refine zA_aload_n (pc := 57) dX8_few_57 rfl ?_
  refine zA_getn (pc := 58) fdX8_88 (show _ < 69 by decide) (sx_0 false) rfl rfl dX8_few_58 ?_
  refine zA_ifnonnullN (pc := 61) dX8_few_61 ?_
  refine zA_aload_n (pc := 64) dX8_few_64 rfl ?_
  have hb : 0 < nX false := by decide
  have hs := sx_0 false
  have hn69 : nX false = 69 := rfl
  refine zA_new (pc := 65) (ci := 1) (CC := RX1) (T := TX1) (N := 11) zwfX hs hb (by decide) (by simp only [zpush, List.mem_cons, List.not_mem_nil, or_false, forall_eq_or_imp, forall_eq, ne_eq, zrefEq, reduceCtorEq, not_false_eq_true, and_true, true_and, false_implies, implies_true] <;> first | omega | decide) (by simp only [zpush, List.mem_cons, List.not_mem_nil, or_false, forall_eq_or_imp, forall_eq, ne_eq, zrefEq, reduceCtorEq, not_false_eq_true, and_true, true_and, false_implies, implies_true] <;> first | omega | decide) rfl rfl zu_1 tyX1_ok knX8_300 zin_1 zii_1 zdf_1 dX8_few_65 (fun hwf hs => ?_)
  refine zA_dup (pc := 68) dX8_few_68 rfl ?_
  refine zA_aload_n (pc := 69) dX8_few_69 rfl ?_
  refine zA_getr (pc := 70) (x := 2) fdX8_23 (show _ < 70 by decide) hs rfl rfl dX8_few_70 ?_
  refine zA_callI (pc := 73) (b := 69) (As := [.ref 2]) kiX8_304 zin1 rfl (tc1 hwf (by decide) zupS_self (by decide) (by decide)) (by decide) rfl rfl (Nat.le_of_ble_eq_true rfl) (by decide) (by decide) (by simp only [zpush, List.mem_cons, List.not_mem_nil, or_false, forall_eq_or_imp, forall_eq, zltEq, reduceCtorEq, false_implies, implies_true, and_true, true_and] <;> first | omega | decide) (by simp only [zpush, List.mem_cons, List.not_mem_nil, or_false, forall_eq_or_imp, forall_eq, zltEq, reduceCtorEq, false_implies, implies_true, and_true, true_and] <;> first | omega | decide) dX8_few_73 ?_
  have hs := (cS1_old (k := 69) (n := 70) (t := 2) (q := 0) (by decide) (by decide)).trans hs
  have hwf := cS1_wf (k := 69) (n := 70) (t := 2) hwf (by decide) zupS_self (by decide)
  refine zA_putr (pc := 76) fdX8_88 hwf (show _ < 76 by decide) (show _ < 76 by decide) hs rfl (Or.inl rfl) dX8_few_76 (fun hwf hs => ?_)
  refine zA_congr (S2 := SX true) (μ2 := cM1 69 70 (zup μ 69 (fun _ => 0))) few_same ?_
  exact few_tail x1 x2 x3 v1 _ _ hr
