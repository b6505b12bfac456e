/-! String constants: key 1000000 + w is the w-th word, key 1000000 + (1000000 + w) its bytes -/
def zsn (w : Nat) : Nat := zStrLen.getD w 0
def zsl (w : Nat) : Int32 := Int32.ofNat (zsn w)
def zsc (w : Nat) (i : Int32) : Int32 := (zStrByt.getD w []).getD i.toNatClampNeg 0
def zi2c (x : Int32) : Int32 := (x.toUInt32 % 65536).toInt32
def zch (x : Int32) (A : zRes) : zRes := if zi2c x = x then A else none
section ZSTR
variable {y y' : MethodName} {cc cc' : ByteArray} {nL nL' : Nat} {ret ret' : Option FieldType} {d d' pc idx na : Nat} {L st stk As : List Value} {n : Nat} {S : Nat → zSh} {μ : zMem} {r r1 : zRes} {k : Int32 → zMem → zRes}
theorem z_ldcs {own text : String} (i : Nat) (hown : y.cls = own) (hs : zStrs[i]? = some (own, idx, text)) (dg : decode cc pc = .ok (.ldc idx, 2)) (k : zR y cc nL ret d (pc + 2) L (.ref (1000000 + i) :: st) n S μ r) : zR y cc nL ret d pc L st n S μ r := by
  intro q hq p l e R s m args below meth c D A tc adK adV C σ0 n0 σ H locs ls cells slots mc ms hH hS hl hB
  obtain ⟨hx, hbb, hml, hown', -, -, -, -, hts, -, -, hG, -, hfr, hlo⟩ := id C
  subst hown
  have hstr := hG.2.2.2.1 i _ hs
  have kk := k q hq p l e R s m args below meth c D A tc adK adV C σ0 n0 σ H locs ls cells slots mc ms hH hS hl hB
  have he : cv σ (.ref (1000000 + i)) = .ref (adK i) := by show Value.ref (σ (1000000 + i)) = _; rw [hH.2.1.2 i]
  rw [List.map_cons, he] at kk
  intro T hT X
  obtain ⟨t, a1, b1⟩ := kk T hT X
  exact ⟨t, X.ldcString hx (own := y.cls) (text := text) (index := idx) (a := adK i) hown' hstr.1 hstr.2 (g := F0 m pc ls (st.map (cv σ))) rfl (by rw [hbb]; exact dg) t a1, b1⟩
/-- COMPACT_STRINGS -/
theorem z_gsC (hf : Cond.fieldLink y.cls idx "java/lang/String" "COMPACT_STRINGS" "Z" ∈ zTb) (dg : decode cc pc = .ok (.getstatic idx, 3)) (k : zR y cc nL ret d (pc + 3) L (.int 1 :: st) n S μ r) : zR y cc nL ret d pc L st n S μ r := by
  intro q hq p l e R s m args below meth c D A tc adK adV C σ0 n0 σ H locs ls cells slots mc ms hH hS hl hB
  obtain ⟨hx, hbb, hml, hown', -, -, -, -, hts, -, -, hG, -, hfr, hlo⟩ := id C
  exact va_gets hx hbb hG.2.2.2.2.2.1 hS hown' (hts _ hf) (fun x h => h) dg (k q hq p l e R s m args below meth c D A tc adK adV C σ0 n0 σ H locs ls cells slots mc ms hH hS hl hB)
/-- the field coder of a word -/
theorem z_strc {w : Nat} (hw : w < 8) (hf : Cond.fieldLink y.cls idx "java/lang/String" "coder" "B" ∈ zTb) (dg : decode cc pc = .ok (.getfield idx, 3)) (k : zR y cc nL ret d (pc + 3) L (.int 0 :: st) n S μ r) : zR y cc nL ret d pc L (.ref (1000000 + w) :: st) n S μ r := by
  intro q hq p l e R s m args below meth c D A tc adK adV C σ0 n0 σ H locs ls cells slots mc ms hH hS hl hB
  obtain ⟨hx, hbb, hml, hown', -, -, -, -, hts, -, -, hG, -, hfr, hlo⟩ := id C
  have he : cv σ (.ref (1000000 + w)) = .ref (adK w) := by show Value.ref (σ (1000000 + w)) = _; rw [hH.2.1.2 w]
  rw [List.map_cons, he]
  exact vk_getf hx hbb (hG.2.2.1.1 w hw).2.1 hS hown' (hts _ hf) (fun x h => h) dg (k q hq p l e R s m args below meth c D A tc adK adV C σ0 n0 σ H locs ls cells slots mc ms hH hS hl hB)
/-- the field value of a word -/
theorem z_strv {w : Nat} (hw : w < 8) (hf : Cond.fieldLink y.cls idx "java/lang/String" "value" "[B" ∈ zTb) (dg : decode cc pc = .ok (.getfield idx, 3)) (k : zR y cc nL ret d (pc + 3) L (.ref (1000000 + (1000000 + w)) :: st) n S μ r) : zR y cc nL ret d pc L (.ref (1000000 + w) :: st) n S μ r := by
  intro q hq p l e R s m args below meth c D A tc adK adV C σ0 n0 σ H locs ls cells slots mc ms hH hS hl hB
  obtain ⟨hx, hbb, hml, hown', -, -, -, -, hts, -, -, hG, -, hfr, hlo⟩ := id C
  have he : cv σ (.ref (1000000 + w)) = .ref (adK w) := by show Value.ref (σ (1000000 + w)) = _; rw [hH.2.1.2 w]
  have he2 : cv σ (.ref (1000000 + (1000000 + w))) = .ref (adV w) := by show Value.ref (σ (1000000 + (1000000 + w))) = _; rw [hH.2.1.2 (1000000 + w), hG.2.2.2.2.2.2.2.1 w]
  have kk := k q hq p l e R s m args below meth c D A tc adK adV C σ0 n0 σ H locs ls cells slots mc ms hH hS hl hB
  rw [List.map_cons, he2] at kk
  rw [List.map_cons, he]
  exact vk_getf hx hbb (hG.2.2.1.1 w hw).2.2.1 hS hown' (hts _ hf) (fun x h => h) dg kk
theorem z_blen {w : Nat} (hw : w < 8) (dg : decode cc pc = .ok (.arraylength, 1)) (k : zR y cc nL ret d (pc + 1) L (.int (zsl w) :: st) n S μ r) : zR y cc nL ret d pc L (.ref (1000000 + (1000000 + w)) :: st) n S μ r := by
  intro q hq p l e R s m args below meth c D A tc adK adV C σ0 n0 σ H locs ls cells slots mc ms hH hS hl hB
  obtain ⟨hx, hbb, hml, hown', -, -, -, -, hts, -, -, hG, -, hfr, hlo⟩ := id C
  have he2 : cv σ (.ref (1000000 + (1000000 + w))) = .ref (adV w) := by show Value.ref (σ (1000000 + (1000000 + w))) = _; rw [hH.2.1.2 (1000000 + w), hG.2.2.2.2.2.2.2.1 w]
  rw [List.map_cons, he2]
  exact va_tlen hx hbb (hG.2.2.1.1 w hw).2.2.2 hS rfl dg (k q hq p l e R s m args below meth c D A tc adK adV C σ0 n0 σ H locs ls cells slots mc ms hH hS hl hB)
theorem z_bald {w : Nat} {i : Int32} (hw : w < 8) (dg : decode cc pc = .ok (.baload, 1)) (k : vp_in i (zsn w) → zR y cc nL ret d (pc + 1) L (.int (zsc w i) :: st) n S μ r) : zR y cc nL ret d pc L (.int i :: .ref (1000000 + (1000000 + w)) :: st) n S μ (zin i (zsn w) r) := by
  intro q hq p l e R s m args below meth c D A tc adK adV C σ0 n0 σ H locs ls cells slots mc ms hH hS hl hB
  obtain ⟨hi, hq⟩ := zin_in hq
  obtain ⟨hx, hbb, hml, hown', -, -, -, -, hts, -, -, hG, -, hfr, hlo⟩ := id C
  have he2 : cv σ (.ref (1000000 + (1000000 + w))) = .ref (adV w) := by show Value.ref (σ (1000000 + (1000000 + w))) = _; rw [hH.2.1.2 (1000000 + w), hG.2.2.2.2.2.2.2.1 w]
  rw [List.map_cons, List.map_cons, he2]
  exact va_tb hx hbb (hG.2.2.1.1 w hw).2.2.2 hS hi rfl dg (k hi q hq p l e R s m args below meth c D A tc adK adV C σ0 n0 σ H locs ls cells slots mc ms hH hS hl hB)
theorem z_i2c {a : Int32} (dg : decode cc pc = .ok (.i2c, 1)) (k : zR y cc nL ret d (pc + 1) L (.int (zi2c a) :: st) n S μ r) : zR y cc nL ret d pc L (.int a :: st) n S μ r := fun q hq p l e R s m args below meth c D A tc adK adV C σ0 n0 σ H locs ls cells slots mc ms hH hS hl hB => lv_i2c C.1 C.2.1 dg rfl (k q hq p l e R s m args below meth c D A tc adK adV C σ0 n0 σ H locs ls cells slots mc ms hH hS hl hB)
theorem zch_nar (v : Int32) (h : zi2c v = v) : narrow .char (.int v) = .int v := by
  have h1 := pk_nc v
  have h2 : (v.toUInt32 % 65536).toInt32 = v := h
  rw [h2] at h1
  exact h1
theorem z_cret {v : Int32} (hr : ret = some .char) (dg : decode cc pc = .ok (.ireturn, 1)) : zR y cc nL ret d pc L [.int v] n S μ (zch v (some (0, v, μ))) := by
  intro q hq p l e R s m args below meth c D A tc adK adV C σ0 n0 σ H locs ls cells slots mc ms hH hS hl hB
  unfold zch at hq
  by_cases hv : zi2c v = v
  · rw [if_pos hv] at hq
    cases hq
    obtain ⟨hx, hbb, -, -, hrt, hlk, -, -, -, -, -, -, -⟩ := id C
    refine vx_ret (W.widen (k := mc) (n := ms) (by have := hB.1; omega) (by have := hB.2.1; omega) ?_)
    refine W.zret hx hbb (by rw [hrt, hr]) (zch_nar v hv) (fun t ht hW => ⟨⟨σ, some (.int v), by subst hr; rfl, rfl, hH.2.1, by rw [ht]; exact hH.2.2.1, hH.2.2.2⟩, hS.F ht⟩) (fun z hz => hS.2.2 z hz) dg hlk
  · rw [if_neg hv] at hq
    cases hq
theorem z_b0ret (hr : ret = some .byte) {v : Int32} (dg : decode cc pc = .ok (.ireturn, 1)) : zR y cc nL ret d pc L [.int v] n S μ (zbl v (some (0, v, μ))) := by
  intro q hq p l e R s m args below meth c D A tc adK adV C σ0 n0 σ H locs ls cells slots mc ms hH hS hl hB
  unfold zbl at hq
  by_cases hv : v = 0 ∨ v = 1
  · rw [if_pos hv] at hq
    cases hq
    obtain ⟨hx, hbb, -, -, hrt, hlk, -, -, -, -, -, -, -⟩ := id C
    refine vx_ret (W.widen (k := mc) (n := ms) (by have := hB.1; omega) (by have := hB.2.1; omega) ?_)
    refine W.zret hx hbb (by rw [hrt, hr]) (by rcases hv with rfl | rfl <;> rfl) (fun t ht hW => ⟨⟨σ, some (.int v), by subst hr; rfl, rfl, hH.2.1, by rw [ht]; exact hH.2.2.1, hH.2.2.2⟩, hS.F ht⟩) (fun z hz => hS.2.2 z hz) dg hlk
  · rw [if_neg hv] at hq
    cases hq
/-- what a call on a word links -/
def zCw (own : String) (idx : Nat) (y : MethodName) (cc : ByteArray) (nL : Nat) (ret : Option FieldType) (na : Nat) : Prop :=
  zCk own idx y cc nL ret na ∧ Cond.instanceMethod y ∈ zTb ∧ Cond.selects y.cls y y ∈ zTb ∧ y.cls = "java/lang/String" ∧ Cond.methodLink own idx y ∈ zTb
theorem z_callW {w : Nat} (hk : w < 8) (hw : zCw y.cls idx y' cc' nL' ret' na) (hM : zMR y' cc' nL' ret' d' (.ref (1000000 + w) :: As) n S μ r1) (hd : d' + 1 ≤ d) (hn : As.length = na) (hst : stk = As.reverse ++ .ref (1000000 + w) :: st) (hrm : (st.map (fun v => v.category)).sum ≤ 8) (dg : decode cc pc = .ok (.invokevirtual idx, 3))
    (kk : ∀ v μ', zR y cc nL ret d (pc + 3) L (zpush ret' v st) n S μ' (k v μ')) : zR y cc nL ret d pc L stk n S μ (bnd0 r1 k) := by
  intro q hq p l e R s m args below meth c D A tc adK adV C σ0 n0 σ H locs ls cells slots mc ms hH hS hl hB
  obtain ⟨v, μ', rfl, hq⟩ := bnd0_some hq
  subst hst
  obtain ⟨⟨h1, h2, h3, h4, -⟩, h6, h7, h8, h5⟩ := hw
  obtain ⟨hx, hbb, hml, hown, -, -, -, -, hts, hK, hA, hG, hst, hfr, hlo⟩ := id C
  have hMM := zM_met (v := zRv ret' v) rfl (hM _ rfl) l D tc adK adV σ H.size hst
  have hrecv := vk_recv hG.2.2.1 hk hS
  rw [← h8, ← hH.2.1.2 w] at hrecv
  have hpre : PreV s H y'.cls (σ (1000000 + w)) (zPc D tc adK adV σ (.ref (1000000 + w) :: As) n S μ H.size) (As.map (cv σ)) := ⟨zPc_blind, hrecv, fun U hU hW => z_pre C hH hS (avs := .ref (1000000 + w) :: As) U hU hW⟩
  have hstk : (F0 m pc ls ((As.reverse ++ Value.ref (1000000 + w) :: st).map (cv σ))).stack = (As.map (cv σ)).reverse ++ .ref (σ (1000000 + w)) :: st.map (cv σ) := zRmap
  have hroom : (zRm d' 0 0).frames + 1 ≤ R.frames ∧ 8 + (nL' + 11) + (zRm d' 0 0).locals ≤ R.locals := ⟨Nat.le_trans hd hfr, by show 8 + (nL' + 11) + 41 * d' ≤ R.locals; omega⟩
  have hrun : va_Run p l e R s m args below meth c H locs cells slots 0 0 (F0 m pc ls ((As.reverse ++ Value.ref (1000000 + w) :: st).map (cv σ))) (st.map (cv σ)) (zQc D (zA σ n H.size) tc adK σ n (zOut ret' n S (0, v, μ')) (Value.ref (σ (1000000 + w)) :: As.map (cv σ)).toArray) (zA σ n H.size) :=
    va_runV ⟨hx, hbb, hml, hown, hts⟩ hMM ⟨callB_of na hts (zWs_good h1) rfl rfl rfl (hts _ h2) (hts _ h5) h4 hroom, hts _ h6, hts _ h7⟩ hpre rfl (by rw [List.length_map, hn]) hl.1.1 hstk (zroom hrm) dg ⟨by have := hB; omega, by have := hB; omega⟩
  refine z_cont C hH hS (v := zRv ret' v) (o1 := zOut ret' n S (0, v, μ')) rfl (Nat.le_refl _) hrun (fun σ1 H1 locs1 hH1 _ hσ hS1 => ?_)
  obtain rfl := hσ rfl
  rw [zpush_map]
  exact kk v μ' q hq p l e R s m args below meth c D A tc adK adV C σ0 n0 σ1 H1 locs1 ls _ _ mc ms hH1 hS1 hl hB
end ZSTR
