theorem zu_5 : ∀ w ∈ u_ws RX5 TX5 11, w ∈ zTb := by
  intro w hw
  obtain ⟨j, hj, rfl⟩ := List.mem_map.mp hw
  have hj := List.mem_range.mp hj
  match j, hj with
  | 0, _ => exact (zTb_mem (zm_1 (List.mem_of_getElem? (i := 200) (by decide +kernel))) rfl)
  | 1, _ => exact (zTb_mem (zm_1 (List.mem_of_getElem? (i := 202) (by decide +kernel))) rfl)
  | 2, _ => exact (zTb_mem (zm_1 (List.mem_of_getElem? (i := 204) (by decide +kernel))) rfl)
  | 3, _ => exact (zTb_mem (zm_1 (List.mem_of_getElem? (i := 206) (by decide +kernel))) rfl)
  | 4, _ => exact (zTb_mem (zm_1 (List.mem_of_getElem? (i := 208) (by decide +kernel))) rfl)
  | 5, _ => exact (zTb_mem (zm_1 (List.mem_of_getElem? (i := 210) (by decide +kernel))) rfl)
  | 6, _ => exact (zTb_mem (zm_1 (List.mem_of_getElem? (i := 212) (by decide +kernel))) rfl)
  | 7, _ => exact (zTb_mem (zm_1 (List.mem_of_getElem? (i := 214) (by decide +kernel))) rfl)
  | 8, _ => exact (zTb_mem (zm_1 (List.mem_of_getElem? (i := 216) (by decide +kernel))) rfl)
  | 9, _ => exact (zTb_mem (zm_1 (List.mem_of_getElem? (i := 218) (by decide +kernel))) rfl)
  | 10, _ => exact (zTb_mem (zm_1 (List.mem_of_getElem? (i := 220) (by decide +kernel))) rfl)
  | j + 11, h => omega
theorem fdX5_9 : zFd RX5 9 5 1 := ⟨RX5, TX5, 11, rfl, rfl, by decide, zu_5, rfl, (Or.inl (zTb_mem (zm_1 (List.mem_of_getElem? (i := 172) (by decide +kernel))) rfl)), nmX5, tyX5_ok⟩
theorem fdX5_15 : zFd RX5 15 5 2 := ⟨RX5, TX5, 11, rfl, rfl, by decide, zu_5, rfl, (Or.inl (zTb_mem (zm_1 (List.mem_of_getElem? (i := 176) (by decide +kernel))) rfl)), nmX5, tyX5_ok⟩
theorem fdX5_18 : zFd RX5 18 5 3 := ⟨RX5, TX5, 11, rfl, rfl, by decide, zu_5, rfl, (Or.inl (zTb_mem (zm_1 (List.mem_of_getElem? (i := 179) (by decide +kernel))) rfl)), nmX5, tyX5_ok⟩
theorem fdX5_21 : zFd RX5 21 5 4 := ⟨RX5, TX5, 11, rfl, rfl, by decide, zu_5, rfl, (Or.inl (zTb_mem (zm_1 (List.mem_of_getElem? (i := 182) (by decide +kernel))) rfl)), nmX5, tyX5_ok⟩
theorem fdX5_24 : zFd RX5 24 5 5 := ⟨RX5, TX5, 11, rfl, rfl, by decide, zu_5, rfl, (Or.inl (zTb_mem (zm_1 (List.mem_of_getElem? (i := 186) (by decide +kernel))) rfl)), nmX5, tyX5_ok⟩
theorem fdX5_27 : zFd RX5 27 5 6 := ⟨RX5, TX5, 11, rfl, rfl, by decide, zu_5, rfl, (Or.inl (zTb_mem (zm_1 (List.mem_of_getElem? (i := 189) (by decide +kernel))) rfl)), nmX5, tyX5_ok⟩
theorem fdX5_31 : zFd RX5 31 5 7 := ⟨RX5, TX5, 11, rfl, rfl, by decide, zu_5, rfl, (Or.inl (zTb_mem (zm_1 (List.mem_of_getElem? (i := 190) (by decide +kernel))) rfl)), nmX5, tyX5_ok⟩
theorem fdX5_43 : zFd RX5 43 5 0 := ⟨RX5, TX5, 11, rfl, rfl, by decide, zu_5, rfl, (Or.inl (zTb_mem (zm_1 (List.mem_of_getElem? (i := 171) (by decide +kernel))) rfl)), nmX5, tyX5_ok⟩
theorem zu_7 : ∀ w ∈ u_ws RX7 TX7 15, w ∈ zTb := by
  intro w hw
  obtain ⟨j, hj, rfl⟩ := List.mem_map.mp hw
  have hj := List.mem_range.mp hj
  match j, hj with
  | 0, _ => exact (zTb_mem (zm_1 (List.mem_of_getElem? (i := 107) (by decide +kernel))) rfl)
  | 1, _ => exact (zTb_mem (zm_1 (List.mem_of_getElem? (i := 109) (by decide +kernel))) rfl)
  | 2, _ => exact (zTb_mem (zm_1 (List.mem_of_getElem? (i := 111) (by decide +kernel))) rfl)
  | 3, _ => exact (zTb_mem (zm_1 (List.mem_of_getElem? (i := 113) (by decide +kernel))) rfl)
  | 4, _ => exact (zTb_mem (zm_1 (List.mem_of_getElem? (i := 115) (by decide +kernel))) rfl)
  | 5, _ => exact (zTb_mem (zm_1 (List.mem_of_getElem? (i := 117) (by decide +kernel))) rfl)
  | 6, _ => exact (zTb_mem (zm_1 (List.mem_of_getElem? (i := 119) (by decide +kernel))) rfl)
  | 7, _ => exact (zTb_mem (zm_1 (List.mem_of_getElem? (i := 121) (by decide +kernel))) rfl)
  | 8, _ => exact (zTb_mem (zm_1 (List.mem_of_getElem? (i := 123) (by decide +kernel))) rfl)
  | 9, _ => exact (zTb_mem (zm_1 (List.mem_of_getElem? (i := 125) (by decide +kernel))) rfl)
  | 10, _ => exact (zTb_mem (zm_1 (List.mem_of_getElem? (i := 127) (by decide +kernel))) rfl)
  | 11, _ => exact (zTb_mem (zm_1 (List.mem_of_getElem? (i := 129) (by decide +kernel))) rfl)
  | 12, _ => exact (zTb_mem (zm_1 (List.mem_of_getElem? (i := 131) (by decide +kernel))) rfl)
  | 13, _ => exact (zTb_mem (zm_1 (List.mem_of_getElem? (i := 133) (by decide +kernel))) rfl)
  | 14, _ => exact (zTb_mem (zm_1 (List.mem_of_getElem? (i := 135) (by decide +kernel))) rfl)
  | j + 15, h => omega
theorem fdX5_105 : zFd RX5 105 7 13 := ⟨RX7, TX7, 15, rfl, rfl, by decide, zu_7, rfl, (Or.inr ⟨"TwoHandles", (List.mem_filter.mpr ⟨zm_1 (List.mem_of_getElem? (i := 102) (by decide +kernel)), rfl⟩)⟩), nmX7, tyX7_ok⟩
theorem fdX5_108 : zFd RX5 108 7 14 := ⟨RX7, TX7, 15, rfl, rfl, by decide, zu_7, rfl, (Or.inr ⟨"TwoHandles", (List.mem_filter.mpr ⟨zm_1 (List.mem_of_getElem? (i := 106) (by decide +kernel)), rfl⟩)⟩), nmX7, tyX7_ok⟩
theorem fdX5_121 : zFd RX5 121 7 12 := ⟨RX7, TX7, 15, rfl, rfl, by decide, zu_7, rfl, (Or.inr ⟨"TwoHandles", (List.mem_filter.mpr ⟨zm_1 (List.mem_of_getElem? (i := 98) (by decide +kernel)), rfl⟩)⟩), nmX7, tyX7_ok⟩
theorem fdX7_43 : zFd RX7 43 7 10 := ⟨RX7, TX7, 15, rfl, rfl, by decide, zu_7, rfl, (Or.inl (zTb_mem (zm_1 (List.mem_of_getElem? (i := 86) (by decide +kernel))) rfl)), nmX7, tyX7_ok⟩
theorem zc_X7_areKin : Cond.code yX7_areKin cX7_areKin 3 (some .boolean) ∈ zTb := (zTb_mem (zm_4 (List.mem_of_getElem? (i := 58) (by decide +kernel))) rfl)
theorem zi_X7_areKin : Cond.initialized yX7_areKin.cls ∈ zTb := (zTb_mem (zm_1 (List.mem_of_getElem? (i := 2) (by decide +kernel))) rfl)
theorem zx_X7_areKin : Cond.instanceMethod yX7_areKin ∈ zTb := (zTb_mem (zm_4 (List.mem_of_getElem? (i := 57) (by decide +kernel))) rfl)
theorem zv_X7_areKin : Cond.selects yX7_areKin.cls yX7_areKin yX7_areKin ∈ zTb := zp_1 (List.mem_of_getElem? (i := 9) rfl)
theorem zd_X7_areKin : yX7_areKin.cls ≠ "java/lang/invoke/MethodHandle" ∧ yX7_areKin.cls ≠ "java/lang/invoke/VarHandle" ∧ (parseMethodDescriptor yX7_areKin.desc).map (fun d => d.parameters.length) = some 2 := by decide +kernel
theorem kvX5_88 : zCv RX5 88 yX7_areKin cX7_areKin 3 (some .boolean) 2 7 := ⟨⟨zc_X7_areKin, zi_X7_areKin, by decide, zd_X7_areKin, (Or.inr ⟨"TwoHandles", (List.mem_filter.mpr ⟨zm_4 (List.mem_of_getElem? (i := 55) (by decide +kernel)), rfl⟩)⟩)⟩, zx_X7_areKin, zv_X7_areKin, rfl⟩
theorem zc_X5_apart : Cond.code yX5_apart cX5_apart 5 (some .int) ∈ zTb := (zTb_mem (zm_4 (List.mem_of_getElem? (i := 67) (by decide +kernel))) rfl)
theorem zi_X5_apart : Cond.initialized yX5_apart.cls ∈ zTb := (zTb_mem (zm_1 (List.mem_of_getElem? (i := 4) (by decide +kernel))) rfl)
theorem zx_X5_apart : Cond.instanceMethod yX5_apart ∈ zTb := (zTb_mem (zm_4 (List.mem_of_getElem? (i := 66) (by decide +kernel))) rfl)
theorem zv_X5_apart : Cond.selects yX5_apart.cls yX5_apart yX5_apart ∈ zTb := zp_1 (List.mem_of_getElem? (i := 11) rfl)
theorem zd_X5_apart : yX5_apart.cls ≠ "java/lang/invoke/MethodHandle" ∧ yX5_apart.cls ≠ "java/lang/invoke/VarHandle" ∧ (parseMethodDescriptor yX5_apart.desc).map (fun d => d.parameters.length) = some 3 := by decide +kernel
theorem klX5_92 : Cond.methodLink RX5 92 yX5_apart ∈ zTb := (zTb_mem (zm_4 (List.mem_of_getElem? (i := 64) (by decide +kernel))) rfl)
theorem kvX5_92 : zCv RX5 92 yX5_apart cX5_apart 5 (some .int) 3 5 := ⟨⟨zc_X5_apart, zi_X5_apart, by decide, zd_X5_apart, (Or.inl klX5_92)⟩, zx_X5_apart, zv_X5_apart, rfl⟩
theorem zc_X5_isOpen : Cond.code yX5_isOpen cX5_isOpen 2 (some .boolean) ∈ zTb := (zTb_mem (zm_4 (List.mem_of_getElem? (i := 44) (by decide +kernel))) rfl)
theorem zi_X5_isOpen : Cond.initialized yX5_isOpen.cls ∈ zTb := (zTb_mem (zm_1 (List.mem_of_getElem? (i := 4) (by decide +kernel))) rfl)
theorem zx_X5_isOpen : Cond.instanceMethod yX5_isOpen ∈ zTb := (zTb_mem (zm_4 (List.mem_of_getElem? (i := 43) (by decide +kernel))) rfl)
theorem zv_X5_isOpen : Cond.selects yX5_isOpen.cls yX5_isOpen yX5_isOpen ∈ zTb := zp_1 (List.mem_of_getElem? (i := 6) rfl)
theorem zd_X5_isOpen : yX5_isOpen.cls ≠ "java/lang/invoke/MethodHandle" ∧ yX5_isOpen.cls ≠ "java/lang/invoke/VarHandle" ∧ (parseMethodDescriptor yX5_isOpen.desc).map (fun d => d.parameters.length) = some 1 := by decide +kernel
theorem klX5_111 : Cond.methodLink RX5 111 yX5_isOpen ∈ zTb := (zTb_mem (zm_4 (List.mem_of_getElem? (i := 53) (by decide +kernel))) rfl)
theorem kvX5_111 : zCv RX5 111 yX5_isOpen cX5_isOpen 2 (some .boolean) 1 5 := ⟨⟨zc_X5_isOpen, zi_X5_isOpen, by decide, zd_X5_isOpen, (Or.inl klX5_111)⟩, zx_X5_isOpen, zv_X5_isOpen, rfl⟩
theorem zc_X5_isTooLate : Cond.code yX5_isTooLate cX5_isTooLate 2 (some .boolean) ∈ zTb := (zTb_mem (zm_4 (List.mem_of_getElem? (i := 48) (by decide +kernel))) rfl)
theorem zi_X5_isTooLate : Cond.initialized yX5_isTooLate.cls ∈ zTb := (zTb_mem (zm_1 (List.mem_of_getElem? (i := 4) (by decide +kernel))) rfl)
theorem zx_X5_isTooLate : Cond.instanceMethod yX5_isTooLate ∈ zTb := (zTb_mem (zm_4 (List.mem_of_getElem? (i := 47) (by decide +kernel))) rfl)
theorem zv_X5_isTooLate : Cond.selects yX5_isTooLate.cls yX5_isTooLate yX5_isTooLate ∈ zTb := zp_1 (List.mem_of_getElem? (i := 7) rfl)
theorem zd_X5_isTooLate : yX5_isTooLate.cls ≠ "java/lang/invoke/MethodHandle" ∧ yX5_isTooLate.cls ≠ "java/lang/invoke/VarHandle" ∧ (parseMethodDescriptor yX5_isTooLate.desc).map (fun d => d.parameters.length) = some 1 := by decide +kernel
theorem klX5_115 : Cond.methodLink RX5 115 yX5_isTooLate ∈ zTb := (zTb_mem (zm_4 (List.mem_of_getElem? (i := 54) (by decide +kernel))) rfl)
theorem kvX5_115 : zCv RX5 115 yX5_isTooLate cX5_isTooLate 2 (some .boolean) 1 5 := ⟨⟨zc_X5_isTooLate, zi_X5_isTooLate, by decide, zd_X5_isTooLate, (Or.inl klX5_115)⟩, zx_X5_isTooLate, zv_X5_isTooLate, rfl⟩
theorem zc_X5_questionOf : Cond.code yX5_questionOf cX5_questionOf 2 (some .int) ∈ zTb := (zTb_mem (zm_4 (List.mem_of_getElem? (i := 63) (by decide +kernel))) rfl)
theorem zi_X5_questionOf : Cond.initialized yX5_questionOf.cls ∈ zTb := (zTb_mem (zm_1 (List.mem_of_getElem? (i := 4) (by decide +kernel))) rfl)
theorem zx_X5_questionOf : Cond.instanceMethod yX5_questionOf ∈ zTb := (zTb_mem (zm_4 (List.mem_of_getElem? (i := 62) (by decide +kernel))) rfl)
theorem zv_X5_questionOf : Cond.selects yX5_questionOf.cls yX5_questionOf yX5_questionOf ∈ zTb := zp_1 (List.mem_of_getElem? (i := 10) rfl)
theorem zd_X5_questionOf : yX5_questionOf.cls ≠ "java/lang/invoke/MethodHandle" ∧ yX5_questionOf.cls ≠ "java/lang/invoke/VarHandle" ∧ (parseMethodDescriptor yX5_questionOf.desc).map (fun d => d.parameters.length) = some 1 := by decide +kernel
theorem klX5_124 : Cond.methodLink RX5 124 yX5_questionOf ∈ zTb := (zTb_mem (zm_4 (List.mem_of_getElem? (i := 60) (by decide +kernel))) rfl)
theorem kvX5_124 : zCv RX5 124 yX5_questionOf cX5_questionOf 2 (some .int) 1 5 := ⟨⟨zc_X5_questionOf, zi_X5_questionOf, by decide, zd_X5_questionOf, (Or.inl klX5_124)⟩, zx_X5_questionOf, zv_X5_questionOf, rfl⟩
theorem kmX5_83 : zCm RX5 83 Lib.Math.abs.name Lib.Math.abs.code 1 := ⟨(zTb_mem (zm_4 (List.mem_of_getElem? (i := 68) (by decide +kernel))) rfl), (zTb_mem (zm_4 (List.mem_of_getElem? (i := 69) (by decide +kernel))) rfl), (zTb_mem (zm_1 (List.mem_of_getElem? (i := 14) (by decide +kernel))) rfl), (zTb_mem (zm_4 (List.mem_of_getElem? (i := 70) (by decide +kernel))) rfl)⟩
theorem kmX5_118 : zCm RX5 118 Lib.Math.min.name Lib.Math.min.code 2 := ⟨(zTb_mem (zm_4 (List.mem_of_getElem? (i := 59) (by decide +kernel))) rfl), (zTb_mem (zm_3 (List.mem_of_getElem? (i := 61) (by decide +kernel))) rfl), (zTb_mem (zm_1 (List.mem_of_getElem? (i := 14) (by decide +kernel))) rfl), (zTb_mem (zm_3 (List.mem_of_getElem? (i := 62) (by decide +kernel))) rfl)⟩
theorem kcJ6_265 : Cond.constant RJ6 265 (1431655765 : Int32) ∈ zTb := (zTb_mem (zm_4 (List.mem_of_getElem? (i := 102) (by decide +kernel))) rfl)
theorem kcJ6_266 : Cond.constant RJ6 266 (858993459 : Int32) ∈ zTb := (zTb_mem (zm_4 (List.mem_of_getElem? (i := 103) (by decide +kernel))) rfl)
theorem kcJ6_267 : Cond.constant RJ6 267 (252645135 : Int32) ∈ zTb := (zTb_mem (zm_4 (List.mem_of_getElem? (i := 104) (by decide +kernel))) rfl)
