/-! THROWS, MATH, ARRAYCOPY over zR -/
theorem zgn {args : Array Value} {s : State} {w : Cond} (hts : ∀ w ∈ zTb, w.before args s = true) (hN : zNw s) (h : w ∈ lw_tbl) (hg : (goodWord w || zIsN w) = true) : w.before args s = true := by
  rw [Bool.or_eq_true] at hg
  rcases hg with hg | hg
  · exact hts w (zTb_mem h hg)
  · have h1 := hN w (List.mem_filter.mpr ⟨h, by rw [hg]; rfl⟩)
    cases w <;> first | exact va_Nw.use rfl h1 | cases hg
theorem zgo {w : Cond} (hg : (goodWord w || zIsN w) = true) : w.onTables = true ∨ goodWord w = true := by
  rw [Bool.or_eq_true] at hg
  rcases hg with hg | hg
  · exact Or.inr hg
  · cases w <;> first | exact Or.inl rfl | cases hg
section ZTH
variable {y y' : MethodName} {cc cc' : ByteArray} {nL nL' : Nat} {ret ret' : Option FieldType} {d d' pc idx b ci na : Nat} {L st stk As : List Value} {n : Nat} {S : Nat → zSh} {μ : zMem} {r r1 : zRes} {k : Int32 → zMem → zRes}
theorem zMR_ret {avs : List Value} {v : Int32} {μ' : zMem} (h : zMR y' cc' nL' ret' d' avs n S μ (some (0, v, μ'))) : zMR y' cc' nL' ret' d' avs n S μ (some (0, v, μ')) := h
/-- a call that may throw -/
theorem z_callX (hw : zCv y.cls idx y' cc' nL' ret' na ci) (hlk : Cond.methodLink y.cls idx y' ∈ zTb) (hM : zMR y' cc' nL' ret' d' (.ref b :: As) n S μ r1) (hd : d' + 1 ≤ d) (hb : b < n) {z : Nat} {rf : Nat → Option Nat} (hs : S b = (0, ci, z, rf)) (hn : As.length = na) (hst : stk = As.reverse ++ .ref b :: st) (hrm : (st.map (fun v => v.category)).sum ≤ 8) (dg : decode cc pc = .ok (.invokevirtual idx, 3))
    (kk : ∀ v μ', zR y cc nL ret d (pc + 3) L (zpush ret' v st) n S μ' (k v μ')) : zR y cc nL ret d pc L stk n S μ (bnd r1 k) := by
  intro q hq
  rcases bnd_some hq with ⟨v, μ', rfl, hq⟩ | ⟨ex, v, μ', rfl, rfl⟩
  · exact z_callV (k := k) hw hM hd hb hs hn hst hrm dg kk q hq
  · intro p l e R s m args below meth c D A tc adK adV C σ0 n0 σ H locs ls cells slots mc ms hH hS hl hB
    subst hst
    obtain ⟨⟨h1, h2, h3, h4, -⟩, h6, h7, h8⟩ := hw
    obtain ⟨hx, hbb, hml, hown, -, hlocks, -, hexc, hts, hK, hA, hG, hst, hfr, hlo⟩ := id C
    have hMM := hM _ rfl l D tc adK adV σ H.size hst
    obtain ⟨Q9, hQ9, hQc⟩ : ∃ Q9, zCl[ci]? = some Q9 ∧ Q9.1 = y'.cls := by
      cases hc9 : zCl[ci]? with
      | none => rw [hc9] at h8; cases h8
      | some Q9 => rw [hc9] at h8; exact ⟨Q9, rfl, Option.some.inj h8⟩
    have he := zW_get' (σ := σ) (tc := tc) (μ := μ) hb hs
    rw [zE_obj] at he
    have hrecv := va_recv hK hH.2.2.1 hQ9 he
    rw [hQc] at hrecv
    have hpre : PreV s H y'.cls (σ b) (zPc D tc adK adV σ (.ref b :: As) n S μ H.size) (As.map (cv σ)) := ⟨zPc_blind, hrecv, fun U hU hW => z_pre C hH hS (avs := .ref b :: As) U hU hW⟩
    have hstk : (F0 m pc ls ((As.reverse ++ Value.ref b :: st).map (cv σ))).stack = (As.map (cv σ)).reverse ++ .ref (σ b) :: st.map (cv σ) := zRmap
    have hroom : (zRm d' 1 6).frames + 1 ≤ R.frames ∧ 8 + (nL' + 11) + (zRm d' 1 6).locals ≤ R.locals := ⟨Nat.le_trans hd hfr, by show 8 + (nL' + 11) + 41 * d' ≤ R.locals; omega⟩
    have hB' : cells + 1 ≤ mc ∧ slots + 6 ≤ ms ∧ mc ≤ R.cells ∧ ms ≤ R.slots := hB
    have hrun : vx_Run p l e R s m args below meth c H locs cells slots 1 6 (F0 m pc ls ((As.reverse ++ Value.ref b :: st).map (cv σ))) (st.map (cv σ)) (zQc D (zA σ n H.size) tc adK σ n (zOut ret' n S (ex + 1, v, μ')) (Value.ref (σ b) :: As.map (cv σ)).toArray) (zXC D (zA σ n H.size) tc adK σ n (zOut ret' n S (ex + 1, v, μ'))) (zA σ n H.size) :=
      vx_runV ⟨hx, hbb, hml, hown, hts⟩ hMM ⟨callB_of na hts (zWs_good h1) rfl rfl rfl (hts _ h2) (hts _ hlk) h4 hroom, hts _ h6, hts _ h7⟩ hpre rfl (by rw [List.length_map, hn]) hl.1.1 hstk (zroom hrm) dg ⟨by omega, by omega⟩
    intro T hT X
    rcases hrun T hT X with ⟨v', st₀, t, T', L', h0, X', hL, e1, e2, ⟨⟨σ1, v1, hv1, -⟩, -⟩, st9⟩ | ⟨q9, st₀, t, T', L', E, ce, h0, X', hL, e1, e2, ⟨⟨hE, σ1, hHe⟩, hF⟩, hce, hcv, hcl, st9⟩
    · cases hv1
    · have hE' : zExn (ex + 1) = E := by injection hE
      subst hE'
      rw [← e1] at hHe
      obtain ⟨k1, k2, k3⟩ := vx_keep h0 e1 hS (fun q _ h => z_free C hH hS q h) (fun q h => z_free C hH hS q h) hL hF
      have hH1 := z_after C hH hS (Nat.le_refl _) hHe
      obtain ⟨t2, a1, b1⟩ := vx_out (Qc := zQc D A tc adK σ0 n0 (zOut ret n S (ex + 1, v, μ'))) (XC := zXC D A tc adK σ0 n0 (zOut ret n S (ex + 1, v, μ'))) (free := A) (mc := mc) (ms := ms) (pc := pc) (ls := ls) (rest := st.map (cv σ)) (locs := locs ++ L') (cells := cells + 1) (slots := slots + 6) (E := zExn (ex + 1)) (H := T'.heap) (p := p) (l := l) (e := e) (R := R) (m := m) (below := below) (args := args)
        (fun x hx => (hexc x hx).elim) hlocks (by rw [e1]; exact hce) hcv hcl (fun t9 ht9 hvm9 => ⟨⟨rfl, σ1, by rw [ht9]; exact hH1.2⟩, k3.F ht9⟩) (fun z hz => k3.2.2 z hz) (by omega) (by omega) T' rfl X'
      exact ⟨t2, st9.trans a1, b1⟩
/-- 'throw new E("text")' -/
theorem z_throw {own text : String} {names : List String} {ik is ic ex i : Nat} (hown : y.cls = own) (hstr : zStrs[i]? = some (own, is, text)) (hd : names.length + 4 ≤ d) (hd2 : 41 * d ≥ 8 + (13 * (names.length + 1) + 43)) (hcls : Bundle.fit (zExn (ex + 1)) = true) (hnames : ∀ z ∈ names, Bundle.fit z = true)
    (hk : Cond.classLink own ik (zExn (ex + 1)) ∈ zTb) (hini : Cond.initialized (zExn (ex + 1)) ∈ zTb) (hat : ∀ w ∈ vx_atS own ic (zExn (ex + 1)) names, w ∈ lw_tbl) (hg : ∀ w ∈ vx_atS own ic (zExn (ex + 1)) names, (goodWord w || zIsN w) = true) (hrm : (st.map (fun v => v.category)).sum ≤ 8)
    (d0 : decode cc pc = .ok (.new ik, 3)) (d3 : decode cc (pc + 3) = .ok (.dup, 1)) (d4 : decode cc (pc + 4) = .ok (.ldc is, 2)) (d6 : decode cc (pc + 6) = .ok (.invokespecial ic, 3)) (d9 : decode cc (pc + 9) = .ok (.athrow, 1)) :
    zR y cc nL ret d pc L st n S μ (some (ex + 1, 0, μ)) := by
  intro q hq p l e R s m args below meth c D A tc adK adV C σ0 n0 σ H locs ls cells slots mc ms hH hS hl hB
  cases hq
  subst hown
  obtain ⟨hx, hbb, hml, hown, -, hlocks, -, hexc, hts, hK, hA, hG, hst, hfr, hlo⟩ := id C
  have hB' : cells + 1 ≤ mc ∧ slots + 6 ≤ ms ∧ mc ≤ R.cells ∧ ms ≤ R.slots := hB
  have hat' : ∀ w ∈ vx_atS y.cls ic (zExn (ex + 1)) names, w.before args s = true := fun w hw => zgn hts hG.2.2.2.2.1 (hat w hw) (hg w hw)
  have hgood : ∀ w ∈ Cond.classLink y.cls ik (zExn (ex + 1)) :: Cond.initialized (zExn (ex + 1)) :: vx_atS y.cls ic (zExn (ex + 1)) names, vx_ot w = true := fun w hw => by
    unfold vx_ot
    rw [Bool.or_eq_true]
    rcases List.mem_cons.mp hw with rfl | hw
    · exact Or.inr (List.mem_filter.mp hk).2
    · rcases List.mem_cons.mp hw with rfl | hw
      · exact Or.inr (List.mem_filter.mp hini).2
      · exact zgo (hg w hw)
  have hcat : ((st.map (cv σ)).map fun v => v.category).sum ≤ 8 := by
    rw [List.map_map]
    have : ((fun v : Value => v.category) ∘ cv σ) = fun v : Value => v.category := funext (cv_cat σ)
    rw [this]
    exact hrm
  refine vx_throwS hx hbb hst hown hcls hnames (hts _ hk) (hts _ hini) (hG.2.2.2.1 i _ hstr) hat' hgood hG.1 hG.2.1 hS (hl.1.1.trans hml.symm) d0 d3 d4 d6 d9 (fun x hx => (hexc x hx).elim) (by omega) (by omega) (by omega) (by omega) hlocks (fun t hvm h1 h2 => ?_) (fun z hz => hS.2.2 z hz) (by omega) (by omega)
  refine ⟨⟨rfl, σ, hH.2.1, ?_, hH.2.2.2⟩, ?_⟩
  · exact fun k9 q9 h9 => (hH.2.2.1 k9 q9 h9).kept (h2 q9.1 ((hH.2.2.1 k9 q9 h9).lt))
  · exact ⟨Nat.le_trans hS.1 h1, fun q9 h9 h10 => by rw [h2 q9 (Nat.lt_of_lt_of_le h9 hS.1)]; exact hS.2.1 q9 h9 h10⟩
theorem z_throwW {own text : String} {names : List String} {ik is ic ex i : Nat} (hown : y.cls = own) (hstr : zStrs[i]? = some (own, is, text)) (hd : names.length + 4 ≤ d) (hd2 : 41 * d ≥ 8 + (13 * (names.length + 1) + 43)) (hcls : Bundle.fit (zExn (ex + 1)) = true) (hnames : ∀ z ∈ names, Bundle.fit z = true)
    (hk : Cond.classLink own ik (zExn (ex + 1)) ∈ zTb) (hini : Cond.initialized (zExn (ex + 1)) ∈ zTb) (hat : ∀ w ∈ vx_atS own ic (zExn (ex + 1)) names, w ∈ lw_tbl) (hg : ∀ w ∈ vx_atS own ic (zExn (ex + 1)) names, (goodWord w || zIsN w) = true) (hrm : (st.map (fun v => v.category)).sum ≤ 8)
    (d0 : decode cc pc = .ok (.new ik, 3)) (d3 : decode cc (pc + 3) = .ok (.dup, 1)) (d4 : decode cc (pc + 4) = .ok (.ldc_w is, 3)) (d6 : decode cc (pc + 7) = .ok (.invokespecial ic, 3)) (d9 : decode cc (pc + 10) = .ok (.athrow, 1)) :
    zR y cc nL ret d pc L st n S μ (some (ex + 1, 0, μ)) := by
  intro q hq p l e R s m args below meth c D A tc adK adV C σ0 n0 σ H locs ls cells slots mc ms hH hS hl hB
  cases hq
  subst hown
  obtain ⟨hx, hbb, hml, hown, -, hlocks, -, hexc, hts, hK, hA, hG, hst, hfr, hlo⟩ := id C
  have hB' : cells + 1 ≤ mc ∧ slots + 6 ≤ ms ∧ mc ≤ R.cells ∧ ms ≤ R.slots := hB
  have hat' : ∀ w ∈ vx_atS y.cls ic (zExn (ex + 1)) names, w.before args s = true := fun w hw => zgn hts hG.2.2.2.2.1 (hat w hw) (hg w hw)
  have hgood : ∀ w ∈ Cond.classLink y.cls ik (zExn (ex + 1)) :: Cond.initialized (zExn (ex + 1)) :: vx_atS y.cls ic (zExn (ex + 1)) names, vx_ot w = true := fun w hw => by
    unfold vx_ot
    rw [Bool.or_eq_true]
    rcases List.mem_cons.mp hw with rfl | hw
    · exact Or.inr (List.mem_filter.mp hk).2
    · rcases List.mem_cons.mp hw with rfl | hw
      · exact Or.inr (List.mem_filter.mp hini).2
      · exact zgo (hg w hw)
  have hcat : ((st.map (cv σ)).map fun v => v.category).sum ≤ 8 := by
    rw [List.map_map]
    have : ((fun v : Value => v.category) ∘ cv σ) = fun v : Value => v.category := funext (cv_cat σ)
    rw [this]
    exact hrm
  refine vx_throwSW hx hbb hst hown hcls hnames (hts _ hk) (hts _ hini) (hG.2.2.2.1 i _ hstr) hat' hgood hG.1 hG.2.1 hS (hl.1.1.trans hml.symm) d0 d3 d4 d6 d9 (fun x hx => (hexc x hx).elim) (by omega) (by omega) (by omega) (by omega) hlocks (fun t hvm h1 h2 => ?_) (fun z hz => hS.2.2 z hz) (by omega) (by omega)
  refine ⟨⟨rfl, σ, hH.2.1, ?_, hH.2.2.2⟩, ?_⟩
  · exact fun k9 q9 h9 => (hH.2.2.1 k9 q9 h9).kept (h2 q9.1 ((hH.2.2.1 k9 q9 h9).lt))
  · exact ⟨Nat.le_trans hS.1 h1, fun q9 h9 h10 => by rw [h2 q9 (Nat.lt_of_lt_of_le h9 hS.1)]; exact hS.2.1 q9 h9 h10⟩
theorem zcats {σ : Nat → Nat} {st : List Value} (h : (st.map (fun v => v.category)).sum ≤ 8) : ((st.map (cv σ)).map fun v => v.category).sum ≤ 8 := by
  rw [List.map_map]
  have : ((fun v : Value => v.category) ∘ cv σ) = fun v : Value => v.category := funext (cv_cat σ)
  rw [this]
  exact h
/-- what a call of Math's min, max, abs links -/
def zCm (own : String) (idx : Nat) (x : MethodName) (code : ByteArray) (k : Nat) : Prop := Cond.methodLink own idx x ∈ zTb ∧ Cond.static x ∈ zTb ∧ Cond.initialized "java/lang/Math" ∈ zTb ∧ Cond.code x code k (some .int) ∈ zTb
theorem z_mmax {a b : Int32} (hw : zCm y.cls idx Lib.Math.max.name Lib.Math.max.code 2) (hd : 1 ≤ d) (hrm : (st.map (fun v => v.category)).sum ≤ 8) (dg : decode cc pc = .ok (.invokestatic idx, 3)) (k : zR y cc nL ret d (pc + 3) L (.int (zmax a b) :: st) n S μ r) : zR y cc nL ret d pc L (.int b :: .int a :: st) n S μ r := by
  intro q hq p l e R s m args below meth c D A tc adK adV C σ0 n0 σ H locs ls cells slots mc ms hH hS hl hB
  obtain ⟨hx, hbb, hml, hown, -, -, -, -, hts, -, -, -, -, hfr, hlo⟩ := id C
  obtain ⟨h1, h2, h3, h4⟩ := hw
  have hc := zcats (σ := σ) hrm
  exact va_mmax hx hbb (by rw [hml]; exact hl.1.1.symm) hown (hts _ h1) (hts _ h2) (hts _ h3) (hts _ h4) (by omega) (by omega) (by omega) (by omega) dg (k q hq p l e R s m args below meth c D A tc adK adV C σ0 n0 σ H locs ls cells slots mc ms hH hS hl hB)
theorem z_mmin {a b : Int32} (hw : zCm y.cls idx Lib.Math.min.name Lib.Math.min.code 2) (hd : 1 ≤ d) (hrm : (st.map (fun v => v.category)).sum ≤ 8) (dg : decode cc pc = .ok (.invokestatic idx, 3)) (k : zR y cc nL ret d (pc + 3) L (.int (zmin a b) :: st) n S μ r) : zR y cc nL ret d pc L (.int b :: .int a :: st) n S μ r := by
  intro q hq p l e R s m args below meth c D A tc adK adV C σ0 n0 σ H locs ls cells slots mc ms hH hS hl hB
  obtain ⟨hx, hbb, hml, hown, -, -, -, -, hts, -, -, -, -, hfr, hlo⟩ := id C
  obtain ⟨h1, h2, h3, h4⟩ := hw
  have hc := zcats (σ := σ) hrm
  exact va_mmin hx hbb (by rw [hml]; exact hl.1.1.symm) hown (hts _ h1) (hts _ h2) (hts _ h3) (hts _ h4) (by omega) (by omega) (by omega) (by omega) dg (k q hq p l e R s m args below meth c D A tc adK adV C σ0 n0 σ H locs ls cells slots mc ms hH hS hl hB)
theorem z_mabs {a : Int32} (hw : zCm y.cls idx Lib.Math.abs.name Lib.Math.abs.code 1) (hd : 1 ≤ d) (hrm : (st.map (fun v => v.category)).sum ≤ 8) (dg : decode cc pc = .ok (.invokestatic idx, 3)) (k : zR y cc nL ret d (pc + 3) L (.int (zabs a) :: st) n S μ r) : zR y cc nL ret d pc L (.int a :: st) n S μ r := by
  intro q hq p l e R s m args below meth c D A tc adK adV C σ0 n0 σ H locs ls cells slots mc ms hH hS hl hB
  obtain ⟨hx, hbb, hml, hown, -, -, -, -, hts, -, -, -, -, hfr, hlo⟩ := id C
  obtain ⟨h1, h2, h3, h4⟩ := hw
  have hc := zcats (σ := σ) hrm
  exact va_mabs hx hbb (by rw [hml]; exact hl.1.1.symm) hown (hts _ h1) (hts _ h2) (hts _ h3) (hts _ h4) (by omega) (by omega) (by omega) (by omega) dg (k q hq p l e R s m args below meth c D A tc adK adV C σ0 n0 σ H locs ls cells slots mc ms hH hS hl hB)
/-- the first N numbers of a row laid into another one -/
def zcpy (μ : zMem) (a b N : Nat) : zMem := zup μ b (fun i => if i < N then μ a i else μ b i)
def zCa (own : String) (idx : Nat) : Prop := Cond.methodLink own idx arraycopyName ∈ zTb ∧ Cond.native arraycopyName ∈ zTb ∧ Cond.static arraycopyName ∈ zTb ∧ Cond.initialized "java/lang/System" ∈ zTb
theorem z_copy {a b za zb N : Nat} {ra rb : Nat → Option Nat} {w : Int32} (hw : zCa y.cls idx) (hd : 1 ≤ d) (ha : a < n) (hb : b < n) (hsa : S a = (1, 0, za, ra)) (hsb : S b = (1, 0, zb, rb)) (hN : w.toNatClampNeg = N) (hw0 : ¬ w < 0) (hza : N ≤ za) (hzb : N ≤ zb) (hrm : (st.map (fun v => v.category)).sum ≤ 8) (dg : decode cc pc = .ok (.invokestatic idx, 3))
    (k : zR y cc nL ret d (pc + 3) L st n S (zcpy μ a b N) r) : zR y cc nL ret d pc L (.int w :: .int 0 :: .ref b :: .int 0 :: .ref a :: st) n S μ r := by
  intro q hq p l e R s m args below meth c D A tc adK adV C σ0 n0 σ H locs ls cells slots mc ms hH hS hl hB
  obtain ⟨hx, hbb, hml, hown, -, -, -, -, hts, hK, -, -, -, hfr, hlo⟩ := id C
  obtain ⟨h1, h2, h3, h4⟩ := hw
  have hc := zcats (σ := σ) hrm
  have he1 := zW_get' (σ := σ) (tc := tc) (μ := μ) ha hsa
  have he2 := zW_get' (σ := σ) (tc := tc) (μ := μ) hb hsb
  rw [zE_arr] at he1 he2
  have z0 : (0 : Int32).toNatClampNeg = 0 := by decide
  have hnw : nativeFrameWords "java/lang/System" "arraycopy" 5 = 7 := by decide
  refine va_copyi hx hbb (by rw [hml]; exact hl.1.1.symm) hown (hts _ h1) (hts _ h2) (hts _ h3) (hts _ h4) hK hH.2.2.1 hH.2.2.2.1 hS a b 0 0 he1 he2 rfl rfl rfl (by decide) (by decide) hw0 (by rw [z0, hN]; omega) (by rw [z0, hN]; omega) (fun _ _ => rfl) (by omega) (by rw [hnw]; omega) dg (fun H1 locs1 hP1 hD1 hS1 => ?_)
  have hw9 : (zW σ tc n S μ).set b (σ b, .inl (tc 0, zb, .inl (va_cpy (μ a) (μ b) (0 : Int32).toNatClampNeg (0 : Int32).toNatClampNeg w.toNatClampNeg))) = zW σ tc n S (zcpy μ a b N) := by
    refine zW_set ?_
    rw [hsb, zE_arr, z0, hN]
    congr 4
    funext i
    unfold va_cpy
    simp
  rw [hw9] at hP1 hD1
  exact k q hq p l e R s m args below meth c D A tc adK adV C σ0 n0 σ H1 locs1 ls cells slots mc ms ⟨hH.1, hH.2.1, hP1, hD1, hH.2.2.2.2⟩ hS1 hl hB
end ZTH
