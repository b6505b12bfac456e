def zNm : List String := ["java/lang/RuntimeException", "java/lang/Exception"]
theorem ztn : ∀ z ∈ zNm, Bundle.fit z = true := by decide +kernel
theorem ztf_1 : Bundle.fit (zExn (0 + 1)) = true := by decide +kernel
theorem zti_1 : Cond.initialized (zExn (0 + 1)) ∈ zTb := (zTb_mem (zm_1 (List.mem_of_getElem? (i := 13) (by decide +kernel))) rfl)
theorem ztX8_1 : Cond.classLink RX8 96 (zExn (0 + 1)) ∈ zTb ∧ (∀ w ∈ vx_atS RX8 100 (zExn (0 + 1)) zNm, w ∈ lw_tbl) ∧ (∀ w ∈ vx_atS RX8 100 (zExn (0 + 1)) zNm, (goodWord w || zIsN w) = true) := ⟨(zTb_mem (zm_4 (List.mem_of_getElem? (i := 115) (by decide +kernel))) rfl), by decide +kernel, by decide +kernel⟩
theorem ztf_2 : Bundle.fit (zExn (1 + 1)) = true := by decide +kernel
theorem zti_2 : Cond.initialized (zExn (1 + 1)) ∈ zTb := (zTb_mem (zm_1 (List.mem_of_getElem? (i := 23) (by decide +kernel))) rfl)
theorem znx : decode prog_36_method_4_code 0 = .ok (.aload_n 0, 1) ∧ decode prog_36_method_4_code 1 = .ok (.aload_n 1, 1) ∧ decode prog_36_method_4_code 2 = .ok (.invokespecial 13, 3) ∧ decode prog_36_method_4_code 5 = .ok (.return_, 1) := by decide +kernel
theorem ztX8_2 : Cond.classLink RX8 362 (zExn (1 + 1)) ∈ zTb ∧ (∀ w ∈ zn_at RX8 364 (zExn (1 + 1)) 13 prog_36_method_4_code zNm, w ∈ lw_tbl) ∧ (∀ w ∈ zn_at RX8 364 (zExn (1 + 1)) 13 prog_36_method_4_code zNm, (goodWord w || zIsN w) = true) := ⟨(zTb_mem (zm_5 (List.mem_of_getElem? (i := 41) (by decide +kernel))) rfl), by decide +kernel, by decide +kernel⟩
theorem ztf_3 : Bundle.fit (zExn (2 + 1)) = true := by decide +kernel
theorem zti_3 : Cond.initialized (zExn (2 + 1)) ∈ zTb := (zTb_mem (zm_1 (List.mem_of_getElem? (i := 24) (by decide +kernel))) rfl)
theorem ztX8_3 : Cond.classLink RX8 365 (zExn (2 + 1)) ∈ zTb ∧ (∀ w ∈ vx_atS RX8 369 (zExn (2 + 1)) zNm, w ∈ lw_tbl) ∧ (∀ w ∈ vx_atS RX8 369 (zExn (2 + 1)) zNm, (goodWord w || zIsN w) = true) := ⟨(zTb_mem (zm_5 (List.mem_of_getElem? (i := 85) (by decide +kernel))) rfl), by decide +kernel, by decide +kernel⟩
theorem ztf_4 : Bundle.fit (zExn (3 + 1)) = true := by decide +kernel
theorem zti_4 : Cond.initialized (zExn (3 + 1)) ∈ zTb := (zTb_mem (zm_1 (List.mem_of_getElem? (i := 25) (by decide +kernel))) rfl)
theorem ztX8_4 : Cond.classLink RX8 199 (zExn (3 + 1)) ∈ zTb ∧ (∀ w ∈ vx_atS RX8 203 (zExn (3 + 1)) zNm, w ∈ lw_tbl) ∧ (∀ w ∈ vx_atS RX8 203 (zExn (3 + 1)) zNm, (goodWord w || zIsN w) = true) := ⟨(zTb_mem (zm_5 (List.mem_of_getElem? (i := 151) (by decide +kernel))) rfl), by decide +kernel, by decide +kernel⟩
