/-! THE LAW'S WALK, 5: words of its calls -/
theorem zc_X8_init : Cond.code yX8_init cX8_init 1 (none) ∈ zTb := (zTb_mem (zm_1 (List.mem_of_getElem? (i := 35) (by decide +kernel))) rfl)
theorem zi_X8_init : Cond.initialized yX8_init.cls ∈ zTb := (zTb_mem (zm_1 (List.mem_of_getElem? (i := 1) (by decide +kernel))) rfl)
theorem zx_X8_init : Cond.instanceMethod yX8_init ∈ zTb := (zTb_mem (zm_1 (List.mem_of_getElem? (i := 34) (by decide +kernel))) rfl)
theorem zd_X8_init : yX8_init.cls ≠ "java/lang/invoke/MethodHandle" ∧ yX8_init.cls ≠ "java/lang/invoke/VarHandle" ∧ (parseMethodDescriptor yX8_init.desc).map (fun d => d.parameters.length) = some 0 := by decide +kernel
theorem kiL_125 : zCk RL 125 yX8_init cX8_init 1 none 0 := ⟨zc_X8_init, zi_X8_init, by decide, zd_X8_init, Or.inl (zTb_mem (zm_1 (List.mem_of_getElem? (i := 33) (by decide +kernel))) rfl)⟩
theorem zc_X9_init : Cond.code yX9_init cX9_init 1 (none) ∈ zTb := (zTb_mem (zm_7 (List.mem_of_getElem? (i := 181) (by decide +kernel))) rfl)
theorem zi_X9_init : Cond.initialized yX9_init.cls ∈ zTb := (zTb_mem (zm_1 (List.mem_of_getElem? (i := 9) (by decide +kernel))) rfl)
theorem zx_X9_init : Cond.instanceMethod yX9_init ∈ zTb := (zTb_mem (zm_7 (List.mem_of_getElem? (i := 180) (by decide +kernel))) rfl)
theorem zd_X9_init : yX9_init.cls ≠ "java/lang/invoke/MethodHandle" ∧ yX9_init.cls ≠ "java/lang/invoke/VarHandle" ∧ (parseMethodDescriptor yX9_init.desc).map (fun d => d.parameters.length) = some 0 := by decide +kernel
theorem kiL_128 : zCk RL 128 yX9_init cX9_init 1 none 0 := ⟨zc_X9_init, zi_X9_init, by decide, zd_X9_init, Or.inl (zTb_mem (zm_7 (List.mem_of_getElem? (i := 179) (by decide +kernel))) rfl)⟩
theorem zc_X8_feed : Cond.code yX8_feed cX8_feed 6 (some .int) ∈ zTb := (zTb_mem (zm_2 (List.mem_of_getElem? (i := 146) (by decide +kernel))) rfl)
theorem zi_X8_feed : Cond.initialized yX8_feed.cls ∈ zTb := (zTb_mem (zm_1 (List.mem_of_getElem? (i := 1) (by decide +kernel))) rfl)
theorem zx_X8_feed : Cond.instanceMethod yX8_feed ∈ zTb := (zTb_mem (zm_2 (List.mem_of_getElem? (i := 144) (by decide +kernel))) rfl)
theorem zv_X8_feed : Cond.selects yX8_feed.cls yX8_feed yX8_feed ∈ zTb := (zTb_mem (zm_2 (List.mem_of_getElem? (i := 145) (by decide +kernel))) rfl)
theorem zd_X8_feed : yX8_feed.cls ≠ "java/lang/invoke/MethodHandle" ∧ yX8_feed.cls ≠ "java/lang/invoke/VarHandle" ∧ (parseMethodDescriptor yX8_feed.desc).map (fun d => d.parameters.length) = some 5 := by decide +kernel
theorem klL_129 : Cond.methodLink RL 129 yX8_feed ∈ zTb := (zTb_mem (zm_2 (List.mem_of_getElem? (i := 143) (by decide +kernel))) rfl)
theorem kvL_129 : zCv RL 129 yX8_feed cX8_feed 6 (some .int) 5 8 := ⟨⟨zc_X8_feed, zi_X8_feed, by decide, zd_X8_feed, Or.inl klL_129⟩, zx_X8_feed, zv_X8_feed, rfl⟩
theorem zc_X9_feed : Cond.code yX9_feed cX9_feed 8 (some .int) ∈ zTb := (zTb_mem (zm_8 (List.mem_of_getElem? (i := 94) (by decide +kernel))) rfl)
theorem zi_X9_feed : Cond.initialized yX9_feed.cls ∈ zTb := (zTb_mem (zm_1 (List.mem_of_getElem? (i := 9) (by decide +kernel))) rfl)
theorem zx_X9_feed : Cond.instanceMethod yX9_feed ∈ zTb := (zTb_mem (zm_8 (List.mem_of_getElem? (i := 92) (by decide +kernel))) rfl)
theorem zv_X9_feed : Cond.selects yX9_feed.cls yX9_feed yX9_feed ∈ zTb := (zTb_mem (zm_8 (List.mem_of_getElem? (i := 93) (by decide +kernel))) rfl)
theorem zd_X9_feed : yX9_feed.cls ≠ "java/lang/invoke/MethodHandle" ∧ yX9_feed.cls ≠ "java/lang/invoke/VarHandle" ∧ (parseMethodDescriptor yX9_feed.desc).map (fun d => d.parameters.length) = some 5 := by decide +kernel
theorem klL_133 : Cond.methodLink RL 133 yX9_feed ∈ zTb := (zTb_mem (zm_8 (List.mem_of_getElem? (i := 91) (by decide +kernel))) rfl)
theorem kvL_133 : zCv RL 133 yX9_feed cX9_feed 8 (some .int) 5 9 := ⟨⟨zc_X9_feed, zi_X9_feed, by decide, zd_X9_feed, Or.inl klL_133⟩, zx_X9_feed, zv_X9_feed, rfl⟩
theorem kwL_134 : zCwr [(0, 9, 12, 13)] RL 134 yL_town cL_town 4 (some .int) 3 := ⟨(zTb_mem (zm_4 (List.mem_of_getElem? (i := 109) (by decide +kernel))) rfl), (zTb_mem (zm_1 (List.mem_of_getElem? (i := 0) (by decide +kernel))) rfl), by decide, by decide +kernel, (zTb_mem (zm_4 (List.mem_of_getElem? (i := 107) (by decide +kernel))) rfl), (zTb_mem (zm_4 (List.mem_of_getElem? (i := 108) (by decide +kernel))) rfl)⟩
theorem zc_X9_town : Cond.code yX9_town cX9_town 4 (some .int) ∈ zTb := (zTb_mem (zm_8 (List.mem_of_getElem? (i := 98) (by decide +kernel))) rfl)
theorem zi_X9_town : Cond.initialized yX9_town.cls ∈ zTb := (zTb_mem (zm_1 (List.mem_of_getElem? (i := 9) (by decide +kernel))) rfl)
theorem zx_X9_town : Cond.instanceMethod yX9_town ∈ zTb := (zTb_mem (zm_8 (List.mem_of_getElem? (i := 96) (by decide +kernel))) rfl)
theorem zv_X9_town : Cond.selects yX9_town.cls yX9_town yX9_town ∈ zTb := (zTb_mem (zm_8 (List.mem_of_getElem? (i := 97) (by decide +kernel))) rfl)
theorem zd_X9_town : yX9_town.cls ≠ "java/lang/invoke/MethodHandle" ∧ yX9_town.cls ≠ "java/lang/invoke/VarHandle" ∧ (parseMethodDescriptor yX9_town.desc).map (fun d => d.parameters.length) = some 1 := by decide +kernel
theorem klL_139 : Cond.methodLink RL 139 yX9_town ∈ zTb := (zTb_mem (zm_8 (List.mem_of_getElem? (i := 95) (by decide +kernel))) rfl)
theorem kvL_139 : zCv RL 139 yX9_town cX9_town 4 (some .int) 1 9 := ⟨⟨zc_X9_town, zi_X9_town, by decide, zd_X9_town, Or.inl klL_139⟩, zx_X9_town, zv_X9_town, rfl⟩
theorem zc_X9_thrown : Cond.code yX9_thrown cX9_thrown 1 (some .int) ∈ zTb := (zTb_mem (zm_8 (List.mem_of_getElem? (i := 90) (by decide +kernel))) rfl)
theorem zi_X9_thrown : Cond.initialized yX9_thrown.cls ∈ zTb := (zTb_mem (zm_1 (List.mem_of_getElem? (i := 9) (by decide +kernel))) rfl)
theorem zx_X9_thrown : Cond.instanceMethod yX9_thrown ∈ zTb := (zTb_mem (zm_8 (List.mem_of_getElem? (i := 88) (by decide +kernel))) rfl)
theorem zv_X9_thrown : Cond.selects yX9_thrown.cls yX9_thrown yX9_thrown ∈ zTb := (zTb_mem (zm_8 (List.mem_of_getElem? (i := 89) (by decide +kernel))) rfl)
theorem zd_X9_thrown : yX9_thrown.cls ≠ "java/lang/invoke/MethodHandle" ∧ yX9_thrown.cls ≠ "java/lang/invoke/VarHandle" ∧ (parseMethodDescriptor yX9_thrown.desc).map (fun d => d.parameters.length) = some 0 := by decide +kernel
theorem klL_140 : Cond.methodLink RL 140 yX9_thrown ∈ zTb := (zTb_mem (zm_8 (List.mem_of_getElem? (i := 87) (by decide +kernel))) rfl)
theorem kvL_140 : zCv RL 140 yX9_thrown cX9_thrown 1 (some .int) 0 9 := ⟨⟨zc_X9_thrown, zi_X9_thrown, by decide, zd_X9_thrown, Or.inl klL_140⟩, zx_X9_thrown, zv_X9_thrown, rfl⟩
theorem zc_X8_fault : Cond.code yX8_fault cX8_fault 1 (some .int) ∈ zTb := (zTb_mem (zm_2 (List.mem_of_getElem? (i := 154) (by decide +kernel))) rfl)
theorem zi_X8_fault : Cond.initialized yX8_fault.cls ∈ zTb := (zTb_mem (zm_1 (List.mem_of_getElem? (i := 1) (by decide +kernel))) rfl)
theorem zx_X8_fault : Cond.instanceMethod yX8_fault ∈ zTb := (zTb_mem (zm_2 (List.mem_of_getElem? (i := 152) (by decide +kernel))) rfl)
theorem zv_X8_fault : Cond.selects yX8_fault.cls yX8_fault yX8_fault ∈ zTb := (zTb_mem (zm_2 (List.mem_of_getElem? (i := 153) (by decide +kernel))) rfl)
theorem zd_X8_fault : yX8_fault.cls ≠ "java/lang/invoke/MethodHandle" ∧ yX8_fault.cls ≠ "java/lang/invoke/VarHandle" ∧ (parseMethodDescriptor yX8_fault.desc).map (fun d => d.parameters.length) = some 0 := by decide +kernel
theorem klL_143 : Cond.methodLink RL 143 yX8_fault ∈ zTb := (zTb_mem (zm_2 (List.mem_of_getElem? (i := 151) (by decide +kernel))) rfl)
theorem kvL_143 : zCv RL 143 yX8_fault cX8_fault 1 (some .int) 0 8 := ⟨⟨zc_X8_fault, zi_X8_fault, by decide, zd_X8_fault, Or.inl klL_143⟩, zx_X8_fault, zv_X8_fault, rfl⟩
theorem zc_X9_fault : Cond.code yX9_fault cX9_fault 1 (some .int) ∈ zTb := (zTb_mem (zm_8 (List.mem_of_getElem? (i := 184) (by decide +kernel))) rfl)
theorem zi_X9_fault : Cond.initialized yX9_fault.cls ∈ zTb := (zTb_mem (zm_1 (List.mem_of_getElem? (i := 9) (by decide +kernel))) rfl)
theorem zx_X9_fault : Cond.instanceMethod yX9_fault ∈ zTb := (zTb_mem (zm_8 (List.mem_of_getElem? (i := 182) (by decide +kernel))) rfl)
theorem zv_X9_fault : Cond.selects yX9_fault.cls yX9_fault yX9_fault ∈ zTb := (zTb_mem (zm_8 (List.mem_of_getElem? (i := 183) (by decide +kernel))) rfl)
theorem zd_X9_fault : yX9_fault.cls ≠ "java/lang/invoke/MethodHandle" ∧ yX9_fault.cls ≠ "java/lang/invoke/VarHandle" ∧ (parseMethodDescriptor yX9_fault.desc).map (fun d => d.parameters.length) = some 0 := by decide +kernel
theorem klL_146 : Cond.methodLink RL 146 yX9_fault ∈ zTb := (zTb_mem (zm_8 (List.mem_of_getElem? (i := 181) (by decide +kernel))) rfl)
theorem kvL_146 : zCv RL 146 yX9_fault cX9_fault 1 (some .int) 0 9 := ⟨⟨zc_X9_fault, zi_X9_fault, by decide, zd_X9_fault, Or.inl klL_146⟩, zx_X9_fault, zv_X9_fault, rfl⟩
theorem kwL_147 : zCwr [(0, 9, 12, 13)] RL 147 yL_told cL_told 4 (some .int) 3 := ⟨(zTb_mem (zm_5 (List.mem_of_getElem? (i := 14) (by decide +kernel))) rfl), (zTb_mem (zm_1 (List.mem_of_getElem? (i := 0) (by decide +kernel))) rfl), by decide, by decide +kernel, (zTb_mem (zm_5 (List.mem_of_getElem? (i := 12) (by decide +kernel))) rfl), (zTb_mem (zm_5 (List.mem_of_getElem? (i := 13) (by decide +kernel))) rfl)⟩
theorem zc_X9_told : Cond.code yX9_told cX9_told 5 (some .int) ∈ zTb := (zTb_mem (zm_8 (List.mem_of_getElem? (i := 188) (by decide +kernel))) rfl)
theorem zi_X9_told : Cond.initialized yX9_told.cls ∈ zTb := (zTb_mem (zm_1 (List.mem_of_getElem? (i := 9) (by decide +kernel))) rfl)
theorem zx_X9_told : Cond.instanceMethod yX9_told ∈ zTb := (zTb_mem (zm_8 (List.mem_of_getElem? (i := 186) (by decide +kernel))) rfl)
theorem zv_X9_told : Cond.selects yX9_told.cls yX9_told yX9_told ∈ zTb := (zTb_mem (zm_8 (List.mem_of_getElem? (i := 187) (by decide +kernel))) rfl)
theorem zd_X9_told : yX9_told.cls ≠ "java/lang/invoke/MethodHandle" ∧ yX9_told.cls ≠ "java/lang/invoke/VarHandle" ∧ (parseMethodDescriptor yX9_told.desc).map (fun d => d.parameters.length) = some 1 := by decide +kernel
theorem klL_149 : Cond.methodLink RL 149 yX9_told ∈ zTb := (zTb_mem (zm_8 (List.mem_of_getElem? (i := 185) (by decide +kernel))) rfl)
theorem kvL_149 : zCv RL 149 yX9_told cX9_told 5 (some .int) 1 9 := ⟨⟨zc_X9_told, zi_X9_told, by decide, zd_X9_told, Or.inl klL_149⟩, zx_X9_told, zv_X9_told, rfl⟩
theorem kwL_150 : zCwr [(0, 10, 13, 22), (0, 10, 17, 13)] RL 150 yL_thinks cL_thinks 5 (some .int) 4 := ⟨(zTb_mem (zm_5 (List.mem_of_getElem? (i := 27) (by decide +kernel))) rfl), (zTb_mem (zm_1 (List.mem_of_getElem? (i := 0) (by decide +kernel))) rfl), by decide, by decide +kernel, (zTb_mem (zm_5 (List.mem_of_getElem? (i := 25) (by decide +kernel))) rfl), (zTb_mem (zm_5 (List.mem_of_getElem? (i := 26) (by decide +kernel))) rfl)⟩
theorem zc_X9_thinks : Cond.code yX9_thinks cX9_thinks 3 (some .int) ∈ zTb := (zTb_mem (zm_8 (List.mem_of_getElem? (i := 196) (by decide +kernel))) rfl)
theorem zi_X9_thinks : Cond.initialized yX9_thinks.cls ∈ zTb := (zTb_mem (zm_1 (List.mem_of_getElem? (i := 9) (by decide +kernel))) rfl)
theorem zx_X9_thinks : Cond.instanceMethod yX9_thinks ∈ zTb := (zTb_mem (zm_8 (List.mem_of_getElem? (i := 194) (by decide +kernel))) rfl)
theorem zv_X9_thinks : Cond.selects yX9_thinks.cls yX9_thinks yX9_thinks ∈ zTb := (zTb_mem (zm_8 (List.mem_of_getElem? (i := 195) (by decide +kernel))) rfl)
theorem zd_X9_thinks : yX9_thinks.cls ≠ "java/lang/invoke/MethodHandle" ∧ yX9_thinks.cls ≠ "java/lang/invoke/VarHandle" ∧ (parseMethodDescriptor yX9_thinks.desc).map (fun d => d.parameters.length) = some 2 := by decide +kernel
theorem klL_153 : Cond.methodLink RL 153 yX9_thinks ∈ zTb := (zTb_mem (zm_8 (List.mem_of_getElem? (i := 193) (by decide +kernel))) rfl)
theorem kvL_153 : zCv RL 153 yX9_thinks cX9_thinks 3 (some .int) 2 9 := ⟨⟨zc_X9_thinks, zi_X9_thinks, by decide, zd_X9_thinks, Or.inl klL_153⟩, zx_X9_thinks, zv_X9_thinks, rfl⟩
theorem kwL_154 : zCwr [(0, 10, 13, 22), (0, 10, 17, 13)] RL 154 yL_person cL_person 5 (some .int) 4 := ⟨(zTb_mem (zm_5 (List.mem_of_getElem? (i := 68) (by decide +kernel))) rfl), (zTb_mem (zm_1 (List.mem_of_getElem? (i := 0) (by decide +kernel))) rfl), by decide, by decide +kernel, (zTb_mem (zm_5 (List.mem_of_getElem? (i := 66) (by decide +kernel))) rfl), (zTb_mem (zm_5 (List.mem_of_getElem? (i := 67) (by decide +kernel))) rfl)⟩
theorem zc_X9_person : Cond.code yX9_person cX9_person 5 (some .int) ∈ zTb := (zTb_mem (zm_8 (List.mem_of_getElem? (i := 208) (by decide +kernel))) rfl)
theorem zi_X9_person : Cond.initialized yX9_person.cls ∈ zTb := (zTb_mem (zm_1 (List.mem_of_getElem? (i := 9) (by decide +kernel))) rfl)
theorem zx_X9_person : Cond.instanceMethod yX9_person ∈ zTb := (zTb_mem (zm_8 (List.mem_of_getElem? (i := 206) (by decide +kernel))) rfl)
theorem zv_X9_person : Cond.selects yX9_person.cls yX9_person yX9_person ∈ zTb := (zTb_mem (zm_8 (List.mem_of_getElem? (i := 207) (by decide +kernel))) rfl)
theorem zd_X9_person : yX9_person.cls ≠ "java/lang/invoke/MethodHandle" ∧ yX9_person.cls ≠ "java/lang/invoke/VarHandle" ∧ (parseMethodDescriptor yX9_person.desc).map (fun d => d.parameters.length) = some 2 := by decide +kernel
theorem klL_156 : Cond.methodLink RL 156 yX9_person ∈ zTb := (zTb_mem (zm_8 (List.mem_of_getElem? (i := 205) (by decide +kernel))) rfl)
theorem kvL_156 : zCv RL 156 yX9_person cX9_person 5 (some .int) 2 9 := ⟨⟨zc_X9_person, zi_X9_person, by decide, zd_X9_person, Or.inl klL_156⟩, zx_X9_person, zv_X9_person, rfl⟩
theorem kwL_157 : zCwr [(0, 10, 13, 30), (0, 10, 17, 13)] RL 157 yL_door cL_door 5 (some .int) 4 := ⟨(zTb_mem (zm_5 (List.mem_of_getElem? (i := 75) (by decide +kernel))) rfl), (zTb_mem (zm_1 (List.mem_of_getElem? (i := 0) (by decide +kernel))) rfl), by decide, by decide +kernel, (zTb_mem (zm_5 (List.mem_of_getElem? (i := 73) (by decide +kernel))) rfl), (zTb_mem (zm_5 (List.mem_of_getElem? (i := 74) (by decide +kernel))) rfl)⟩
theorem zc_X9_door : Cond.code yX9_door cX9_door 3 (some .int) ∈ zTb := (zTb_mem (zm_8 (List.mem_of_getElem? (i := 212) (by decide +kernel))) rfl)
theorem zi_X9_door : Cond.initialized yX9_door.cls ∈ zTb := (zTb_mem (zm_1 (List.mem_of_getElem? (i := 9) (by decide +kernel))) rfl)
theorem zx_X9_door : Cond.instanceMethod yX9_door ∈ zTb := (zTb_mem (zm_8 (List.mem_of_getElem? (i := 210) (by decide +kernel))) rfl)
theorem zv_X9_door : Cond.selects yX9_door.cls yX9_door yX9_door ∈ zTb := (zTb_mem (zm_8 (List.mem_of_getElem? (i := 211) (by decide +kernel))) rfl)
theorem zd_X9_door : yX9_door.cls ≠ "java/lang/invoke/MethodHandle" ∧ yX9_door.cls ≠ "java/lang/invoke/VarHandle" ∧ (parseMethodDescriptor yX9_door.desc).map (fun d => d.parameters.length) = some 2 := by decide +kernel
theorem klL_159 : Cond.methodLink RL 159 yX9_door ∈ zTb := (zTb_mem (zm_8 (List.mem_of_getElem? (i := 209) (by decide +kernel))) rfl)
theorem kvL_159 : zCv RL 159 yX9_door cX9_door 3 (some .int) 2 9 := ⟨⟨zc_X9_door, zi_X9_door, by decide, zd_X9_door, Or.inl klL_159⟩, zx_X9_door, zv_X9_door, rfl⟩
theorem kwL_160 : zCwr [(0, 9, 12, 13)] RL 160 yL_slate cL_slate 4 (some .int) 3 := ⟨(zTb_mem (zm_5 (List.mem_of_getElem? (i := 101) (by decide +kernel))) rfl), (zTb_mem (zm_1 (List.mem_of_getElem? (i := 0) (by decide +kernel))) rfl), by decide, by decide +kernel, (zTb_mem (zm_5 (List.mem_of_getElem? (i := 99) (by decide +kernel))) rfl), (zTb_mem (zm_5 (List.mem_of_getElem? (i := 100) (by decide +kernel))) rfl)⟩
theorem zc_X9_slate : Cond.code yX9_slate cX9_slate 2 (some .int) ∈ zTb := (zTb_mem (zm_8 (List.mem_of_getElem? (i := 220) (by decide +kernel))) rfl)
theorem zi_X9_slate : Cond.initialized yX9_slate.cls ∈ zTb := (zTb_mem (zm_1 (List.mem_of_getElem? (i := 9) (by decide +kernel))) rfl)
theorem zx_X9_slate : Cond.instanceMethod yX9_slate ∈ zTb := (zTb_mem (zm_8 (List.mem_of_getElem? (i := 218) (by decide +kernel))) rfl)
theorem zv_X9_slate : Cond.selects yX9_slate.cls yX9_slate yX9_slate ∈ zTb := (zTb_mem (zm_8 (List.mem_of_getElem? (i := 219) (by decide +kernel))) rfl)
theorem zd_X9_slate : yX9_slate.cls ≠ "java/lang/invoke/MethodHandle" ∧ yX9_slate.cls ≠ "java/lang/invoke/VarHandle" ∧ (parseMethodDescriptor yX9_slate.desc).map (fun d => d.parameters.length) = some 1 := by decide +kernel
theorem klL_162 : Cond.methodLink RL 162 yX9_slate ∈ zTb := (zTb_mem (zm_8 (List.mem_of_getElem? (i := 217) (by decide +kernel))) rfl)
theorem kvL_162 : zCv RL 162 yX9_slate cX9_slate 2 (some .int) 1 9 := ⟨⟨zc_X9_slate, zi_X9_slate, by decide, zd_X9_slate, Or.inl klL_162⟩, zx_X9_slate, zv_X9_slate, rfl⟩
theorem kwL_163 : zCwr [(0, 12, 15, 30), (0, 12, 19, 22)] RL 163 yL_work cL_work 6 (some .int) 5 := ⟨(zTb_mem (zm_5 (List.mem_of_getElem? (i := 114) (by decide +kernel))) rfl), (zTb_mem (zm_1 (List.mem_of_getElem? (i := 0) (by decide +kernel))) rfl), by decide, by decide +kernel, (zTb_mem (zm_5 (List.mem_of_getElem? (i := 112) (by decide +kernel))) rfl), (zTb_mem (zm_5 (List.mem_of_getElem? (i := 113) (by decide +kernel))) rfl)⟩
theorem zc_X9_work : Cond.code yX9_work cX9_work 5 (some .int) ∈ zTb := (zTb_mem (zm_8 (List.mem_of_getElem? (i := 228) (by decide +kernel))) rfl)
theorem zi_X9_work : Cond.initialized yX9_work.cls ∈ zTb := (zTb_mem (zm_1 (List.mem_of_getElem? (i := 9) (by decide +kernel))) rfl)
theorem zx_X9_work : Cond.instanceMethod yX9_work ∈ zTb := (zTb_mem (zm_8 (List.mem_of_getElem? (i := 226) (by decide +kernel))) rfl)
theorem zv_X9_work : Cond.selects yX9_work.cls yX9_work yX9_work ∈ zTb := (zTb_mem (zm_8 (List.mem_of_getElem? (i := 227) (by decide +kernel))) rfl)
theorem zd_X9_work : yX9_work.cls ≠ "java/lang/invoke/MethodHandle" ∧ yX9_work.cls ≠ "java/lang/invoke/VarHandle" ∧ (parseMethodDescriptor yX9_work.desc).map (fun d => d.parameters.length) = some 3 := by decide +kernel
theorem klL_166 : Cond.methodLink RL 166 yX9_work ∈ zTb := (zTb_mem (zm_8 (List.mem_of_getElem? (i := 225) (by decide +kernel))) rfl)
theorem kvL_166 : zCv RL 166 yX9_work cX9_work 5 (some .int) 3 9 := ⟨⟨zc_X9_work, zi_X9_work, by decide, zd_X9_work, Or.inl klL_166⟩, zx_X9_work, zv_X9_work, rfl⟩
theorem kwL_167 : zCwr [(0, 12, 15, 30), (0, 12, 19, 22)] RL 167 yL_may cL_may 6 (some .int) 5 := ⟨(zTb_mem (zm_5 (List.mem_of_getElem? (i := 138) (by decide +kernel))) rfl), (zTb_mem (zm_1 (List.mem_of_getElem? (i := 0) (by decide +kernel))) rfl), by decide, by decide +kernel, (zTb_mem (zm_5 (List.mem_of_getElem? (i := 136) (by decide +kernel))) rfl), (zTb_mem (zm_5 (List.mem_of_getElem? (i := 137) (by decide +kernel))) rfl)⟩
theorem zc_X9_may : Cond.code yX9_may cX9_may 4 (some .int) ∈ zTb := (zTb_mem (zm_9 (List.mem_of_getElem? (i := 15) (by decide +kernel))) rfl)
theorem zi_X9_may : Cond.initialized yX9_may.cls ∈ zTb := (zTb_mem (zm_1 (List.mem_of_getElem? (i := 9) (by decide +kernel))) rfl)
theorem zx_X9_may : Cond.instanceMethod yX9_may ∈ zTb := (zTb_mem (zm_9 (List.mem_of_getElem? (i := 13) (by decide +kernel))) rfl)
theorem zv_X9_may : Cond.selects yX9_may.cls yX9_may yX9_may ∈ zTb := (zTb_mem (zm_9 (List.mem_of_getElem? (i := 14) (by decide +kernel))) rfl)
theorem zd_X9_may : yX9_may.cls ≠ "java/lang/invoke/MethodHandle" ∧ yX9_may.cls ≠ "java/lang/invoke/VarHandle" ∧ (parseMethodDescriptor yX9_may.desc).map (fun d => d.parameters.length) = some 3 := by decide +kernel
theorem klL_169 : Cond.methodLink RL 169 yX9_may ∈ zTb := (zTb_mem (zm_9 (List.mem_of_getElem? (i := 12) (by decide +kernel))) rfl)
theorem kvL_169 : zCv RL 169 yX9_may cX9_may 4 (some .int) 3 9 := ⟨⟨zc_X9_may, zi_X9_may, by decide, zd_X9_may, Or.inl klL_169⟩, zx_X9_may, zv_X9_may, rfl⟩
theorem kwL_170 : zCwr [(0, 8, 11, 46)] RL 170 yL_next cL_next 3 (some .int) 2 := ⟨(zTb_mem (zm_5 (List.mem_of_getElem? (i := 145) (by decide +kernel))) rfl), (zTb_mem (zm_1 (List.mem_of_getElem? (i := 0) (by decide +kernel))) rfl), by decide, by decide +kernel, (zTb_mem (zm_5 (List.mem_of_getElem? (i := 143) (by decide +kernel))) rfl), (zTb_mem (zm_5 (List.mem_of_getElem? (i := 144) (by decide +kernel))) rfl)⟩
theorem zc_X9_next : Cond.code yX9_next cX9_next 1 (some .int) ∈ zTb := (zTb_mem (zm_9 (List.mem_of_getElem? (i := 19) (by decide +kernel))) rfl)
theorem zi_X9_next : Cond.initialized yX9_next.cls ∈ zTb := (zTb_mem (zm_1 (List.mem_of_getElem? (i := 9) (by decide +kernel))) rfl)
theorem zx_X9_next : Cond.instanceMethod yX9_next ∈ zTb := (zTb_mem (zm_9 (List.mem_of_getElem? (i := 17) (by decide +kernel))) rfl)
theorem zv_X9_next : Cond.selects yX9_next.cls yX9_next yX9_next ∈ zTb := (zTb_mem (zm_9 (List.mem_of_getElem? (i := 18) (by decide +kernel))) rfl)
theorem zd_X9_next : yX9_next.cls ≠ "java/lang/invoke/MethodHandle" ∧ yX9_next.cls ≠ "java/lang/invoke/VarHandle" ∧ (parseMethodDescriptor yX9_next.desc).map (fun d => d.parameters.length) = some 0 := by decide +kernel
theorem klL_173 : Cond.methodLink RL 173 yX9_next ∈ zTb := (zTb_mem (zm_9 (List.mem_of_getElem? (i := 16) (by decide +kernel))) rfl)
theorem kvL_173 : zCv RL 173 yX9_next cX9_next 1 (some .int) 0 9 := ⟨⟨zc_X9_next, zi_X9_next, by decide, zd_X9_next, Or.inl klL_173⟩, zx_X9_next, zv_X9_next, rfl⟩
theorem kwL_174 : zCwr [(0, 12, 15, 22), (0, 12, 19, 13)] RL 174 yL_talk cL_talk 6 (some .int) 5 := ⟨(zTb_mem (zm_5 (List.mem_of_getElem? (i := 170) (by decide +kernel))) rfl), (zTb_mem (zm_1 (List.mem_of_getElem? (i := 0) (by decide +kernel))) rfl), by decide, by decide +kernel, (zTb_mem (zm_5 (List.mem_of_getElem? (i := 168) (by decide +kernel))) rfl), (zTb_mem (zm_5 (List.mem_of_getElem? (i := 169) (by decide +kernel))) rfl)⟩
theorem zc_X9_talk : Cond.code yX9_talk cX9_talk 4 (some .int) ∈ zTb := (zTb_mem (zm_9 (List.mem_of_getElem? (i := 23) (by decide +kernel))) rfl)
theorem zi_X9_talk : Cond.initialized yX9_talk.cls ∈ zTb := (zTb_mem (zm_1 (List.mem_of_getElem? (i := 9) (by decide +kernel))) rfl)
theorem zx_X9_talk : Cond.instanceMethod yX9_talk ∈ zTb := (zTb_mem (zm_9 (List.mem_of_getElem? (i := 21) (by decide +kernel))) rfl)
theorem zv_X9_talk : Cond.selects yX9_talk.cls yX9_talk yX9_talk ∈ zTb := (zTb_mem (zm_9 (List.mem_of_getElem? (i := 22) (by decide +kernel))) rfl)
theorem zd_X9_talk : yX9_talk.cls ≠ "java/lang/invoke/MethodHandle" ∧ yX9_talk.cls ≠ "java/lang/invoke/VarHandle" ∧ (parseMethodDescriptor yX9_talk.desc).map (fun d => d.parameters.length) = some 3 := by decide +kernel
theorem klL_176 : Cond.methodLink RL 176 yX9_talk ∈ zTb := (zTb_mem (zm_9 (List.mem_of_getElem? (i := 20) (by decide +kernel))) rfl)
theorem kvL_176 : zCv RL 176 yX9_talk cX9_talk 4 (some .int) 3 9 := ⟨⟨zc_X9_talk, zi_X9_talk, by decide, zd_X9_talk, Or.inl klL_176⟩, zx_X9_talk, zv_X9_talk, rfl⟩
theorem kwL_177 : zCwr [(0, 9, 12, 13)] RL 177 yL_earned cL_earned 4 (some .int) 3 := ⟨(zTb_mem (zm_5 (List.mem_of_getElem? (i := 189) (by decide +kernel))) rfl), (zTb_mem (zm_1 (List.mem_of_getElem? (i := 0) (by decide +kernel))) rfl), by decide, by decide +kernel, (zTb_mem (zm_5 (List.mem_of_getElem? (i := 187) (by decide +kernel))) rfl), (zTb_mem (zm_5 (List.mem_of_getElem? (i := 188) (by decide +kernel))) rfl)⟩
theorem zc_X9_earned : Cond.code yX9_earned cX9_earned 4 (some .int) ∈ zTb := (zTb_mem (zm_9 (List.mem_of_getElem? (i := 31) (by decide +kernel))) rfl)
theorem zi_X9_earned : Cond.initialized yX9_earned.cls ∈ zTb := (zTb_mem (zm_1 (List.mem_of_getElem? (i := 9) (by decide +kernel))) rfl)
theorem zx_X9_earned : Cond.instanceMethod yX9_earned ∈ zTb := (zTb_mem (zm_9 (List.mem_of_getElem? (i := 29) (by decide +kernel))) rfl)
theorem zv_X9_earned : Cond.selects yX9_earned.cls yX9_earned yX9_earned ∈ zTb := (zTb_mem (zm_9 (List.mem_of_getElem? (i := 30) (by decide +kernel))) rfl)
theorem zd_X9_earned : yX9_earned.cls ≠ "java/lang/invoke/MethodHandle" ∧ yX9_earned.cls ≠ "java/lang/invoke/VarHandle" ∧ (parseMethodDescriptor yX9_earned.desc).map (fun d => d.parameters.length) = some 1 := by decide +kernel
theorem klL_179 : Cond.methodLink RL 179 yX9_earned ∈ zTb := (zTb_mem (zm_9 (List.mem_of_getElem? (i := 28) (by decide +kernel))) rfl)
theorem kvL_179 : zCv RL 179 yX9_earned cX9_earned 4 (some .int) 1 9 := ⟨⟨zc_X9_earned, zi_X9_earned, by decide, zd_X9_earned, Or.inl klL_179⟩, zx_X9_earned, zv_X9_earned, rfl⟩
theorem kwL_180 : zCwr [(0, 14, 17, 30), (0, 14, 21, 22), (0, 14, 25, 13)] RL 180 yL_row cL_row 7 (some .int) 6 := ⟨(zTb_mem (zm_5 (List.mem_of_getElem? (i := 201) (by decide +kernel))) rfl), (zTb_mem (zm_1 (List.mem_of_getElem? (i := 0) (by decide +kernel))) rfl), by decide, by decide +kernel, (zTb_mem (zm_5 (List.mem_of_getElem? (i := 199) (by decide +kernel))) rfl), (zTb_mem (zm_5 (List.mem_of_getElem? (i := 200) (by decide +kernel))) rfl)⟩
theorem zc_X9_row : Cond.code yX9_row cX9_row 5 (some .int) ∈ zTb := (zTb_mem (zm_9 (List.mem_of_getElem? (i := 35) (by decide +kernel))) rfl)
theorem zi_X9_row : Cond.initialized yX9_row.cls ∈ zTb := (zTb_mem (zm_1 (List.mem_of_getElem? (i := 9) (by decide +kernel))) rfl)
theorem zx_X9_row : Cond.instanceMethod yX9_row ∈ zTb := (zTb_mem (zm_9 (List.mem_of_getElem? (i := 33) (by decide +kernel))) rfl)
theorem zv_X9_row : Cond.selects yX9_row.cls yX9_row yX9_row ∈ zTb := (zTb_mem (zm_9 (List.mem_of_getElem? (i := 34) (by decide +kernel))) rfl)
theorem zd_X9_row : yX9_row.cls ≠ "java/lang/invoke/MethodHandle" ∧ yX9_row.cls ≠ "java/lang/invoke/VarHandle" ∧ (parseMethodDescriptor yX9_row.desc).map (fun d => d.parameters.length) = some 4 := by decide +kernel
theorem klL_183 : Cond.methodLink RL 183 yX9_row ∈ zTb := (zTb_mem (zm_9 (List.mem_of_getElem? (i := 32) (by decide +kernel))) rfl)
theorem kvL_183 : zCv RL 183 yX9_row cX9_row 5 (some .int) 4 9 := ⟨⟨zc_X9_row, zi_X9_row, by decide, zd_X9_row, Or.inl klL_183⟩, zx_X9_row, zv_X9_row, rfl⟩
theorem zc_X8_clear : Cond.code yX8_clear cX8_clear 2 (some .int) ∈ zTb := (zTb_mem (zm_2 (List.mem_of_getElem? (i := 158) (by decide +kernel))) rfl)
theorem zi_X8_clear : Cond.initialized yX8_clear.cls ∈ zTb := (zTb_mem (zm_1 (List.mem_of_getElem? (i := 1) (by decide +kernel))) rfl)
theorem zx_X8_clear : Cond.instanceMethod yX8_clear ∈ zTb := (zTb_mem (zm_2 (List.mem_of_getElem? (i := 156) (by decide +kernel))) rfl)
theorem zv_X8_clear : Cond.selects yX8_clear.cls yX8_clear yX8_clear ∈ zTb := (zTb_mem (zm_2 (List.mem_of_getElem? (i := 157) (by decide +kernel))) rfl)
theorem zd_X8_clear : yX8_clear.cls ≠ "java/lang/invoke/MethodHandle" ∧ yX8_clear.cls ≠ "java/lang/invoke/VarHandle" ∧ (parseMethodDescriptor yX8_clear.desc).map (fun d => d.parameters.length) = some 0 := by decide +kernel
theorem klL_184 : Cond.methodLink RL 184 yX8_clear ∈ zTb := (zTb_mem (zm_2 (List.mem_of_getElem? (i := 155) (by decide +kernel))) rfl)
theorem kvL_184 : zCv RL 184 yX8_clear cX8_clear 2 (some .int) 0 8 := ⟨⟨zc_X8_clear, zi_X8_clear, by decide, zd_X8_clear, Or.inl klL_184⟩, zx_X8_clear, zv_X8_clear, rfl⟩
theorem zc_X9_clear : Cond.code yX9_clear cX9_clear 2 (some .int) ∈ zTb := (zTb_mem (zm_9 (List.mem_of_getElem? (i := 39) (by decide +kernel))) rfl)
theorem zi_X9_clear : Cond.initialized yX9_clear.cls ∈ zTb := (zTb_mem (zm_1 (List.mem_of_getElem? (i := 9) (by decide +kernel))) rfl)
theorem zx_X9_clear : Cond.instanceMethod yX9_clear ∈ zTb := (zTb_mem (zm_9 (List.mem_of_getElem? (i := 37) (by decide +kernel))) rfl)
theorem zv_X9_clear : Cond.selects yX9_clear.cls yX9_clear yX9_clear ∈ zTb := (zTb_mem (zm_9 (List.mem_of_getElem? (i := 38) (by decide +kernel))) rfl)
theorem zd_X9_clear : yX9_clear.cls ≠ "java/lang/invoke/MethodHandle" ∧ yX9_clear.cls ≠ "java/lang/invoke/VarHandle" ∧ (parseMethodDescriptor yX9_clear.desc).map (fun d => d.parameters.length) = some 0 := by decide +kernel
theorem klL_187 : Cond.methodLink RL 187 yX9_clear ∈ zTb := (zTb_mem (zm_9 (List.mem_of_getElem? (i := 36) (by decide +kernel))) rfl)
theorem kvL_187 : zCv RL 187 yX9_clear cX9_clear 2 (some .int) 0 9 := ⟨⟨zc_X9_clear, zi_X9_clear, by decide, zd_X9_clear, Or.inl klL_187⟩, zx_X9_clear, zv_X9_clear, rfl⟩
theorem kwL_188 : zCwr [(0, 9, 12, 13)] RL 188 yL_judge cL_judge 4 (some .int) 3 := ⟨(zTb_mem (zm_5 (List.mem_of_getElem? (i := 211) (by decide +kernel))) rfl), (zTb_mem (zm_1 (List.mem_of_getElem? (i := 0) (by decide +kernel))) rfl), by decide, by decide +kernel, (zTb_mem (zm_5 (List.mem_of_getElem? (i := 209) (by decide +kernel))) rfl), (zTb_mem (zm_5 (List.mem_of_getElem? (i := 210) (by decide +kernel))) rfl)⟩
theorem zc_X9_judge : Cond.code yX9_judge cX9_judge 7 (some .int) ∈ zTb := (zTb_mem (zm_9 (List.mem_of_getElem? (i := 43) (by decide +kernel))) rfl)
theorem zi_X9_judge : Cond.initialized yX9_judge.cls ∈ zTb := (zTb_mem (zm_1 (List.mem_of_getElem? (i := 9) (by decide +kernel))) rfl)
theorem zx_X9_judge : Cond.instanceMethod yX9_judge ∈ zTb := (zTb_mem (zm_9 (List.mem_of_getElem? (i := 41) (by decide +kernel))) rfl)
theorem zv_X9_judge : Cond.selects yX9_judge.cls yX9_judge yX9_judge ∈ zTb := (zTb_mem (zm_9 (List.mem_of_getElem? (i := 42) (by decide +kernel))) rfl)
theorem zd_X9_judge : yX9_judge.cls ≠ "java/lang/invoke/MethodHandle" ∧ yX9_judge.cls ≠ "java/lang/invoke/VarHandle" ∧ (parseMethodDescriptor yX9_judge.desc).map (fun d => d.parameters.length) = some 1 := by decide +kernel
theorem klL_190 : Cond.methodLink RL 190 yX9_judge ∈ zTb := (zTb_mem (zm_9 (List.mem_of_getElem? (i := 40) (by decide +kernel))) rfl)
theorem kvL_190 : zCv RL 190 yX9_judge cX9_judge 7 (some .int) 1 9 := ⟨⟨zc_X9_judge, zi_X9_judge, by decide, zd_X9_judge, Or.inl klL_190⟩, zx_X9_judge, zv_X9_judge, rfl⟩
theorem kwL_191 : zCwr [(0, 10, 13, 13)] RL 191 yL_today cL_today 5 (some .int) 4 := ⟨(zTb_mem (zm_5 (List.mem_of_getElem? (i := 225) (by decide +kernel))) rfl), (zTb_mem (zm_1 (List.mem_of_getElem? (i := 0) (by decide +kernel))) rfl), by decide, by decide +kernel, (zTb_mem (zm_5 (List.mem_of_getElem? (i := 223) (by decide +kernel))) rfl), (zTb_mem (zm_5 (List.mem_of_getElem? (i := 224) (by decide +kernel))) rfl)⟩
theorem zc_X9_today : Cond.code yX9_today cX9_today 3 (some .int) ∈ zTb := (zTb_mem (zm_9 (List.mem_of_getElem? (i := 59) (by decide +kernel))) rfl)
theorem zi_X9_today : Cond.initialized yX9_today.cls ∈ zTb := (zTb_mem (zm_1 (List.mem_of_getElem? (i := 9) (by decide +kernel))) rfl)
theorem zx_X9_today : Cond.instanceMethod yX9_today ∈ zTb := (zTb_mem (zm_9 (List.mem_of_getElem? (i := 57) (by decide +kernel))) rfl)
theorem zv_X9_today : Cond.selects yX9_today.cls yX9_today yX9_today ∈ zTb := (zTb_mem (zm_9 (List.mem_of_getElem? (i := 58) (by decide +kernel))) rfl)
theorem zd_X9_today : yX9_today.cls ≠ "java/lang/invoke/MethodHandle" ∧ yX9_today.cls ≠ "java/lang/invoke/VarHandle" ∧ (parseMethodDescriptor yX9_today.desc).map (fun d => d.parameters.length) = some 2 := by decide +kernel
theorem klL_193 : Cond.methodLink RL 193 yX9_today ∈ zTb := (zTb_mem (zm_9 (List.mem_of_getElem? (i := 56) (by decide +kernel))) rfl)
theorem kvL_193 : zCv RL 193 yX9_today cX9_today 3 (some .int) 2 9 := ⟨⟨zc_X9_today, zi_X9_today, by decide, zd_X9_today, Or.inl klL_193⟩, zx_X9_today, zv_X9_today, rfl⟩
theorem kwL_194 : zCwr [(0, 10, 13, 13), (0, 10, 17, 30)] RL 194 yL_pair cL_pair 5 (some .int) 4 := ⟨(zTb_mem (zm_6 (List.mem_of_getElem? (i := 1) (by decide +kernel))) rfl), (zTb_mem (zm_1 (List.mem_of_getElem? (i := 0) (by decide +kernel))) rfl), by decide, by decide +kernel, (zTb_mem (zm_5 (List.mem_of_getElem? (i := 239) (by decide +kernel))) rfl), (zTb_mem (zm_6 (List.mem_of_getElem? (i := 0) (by decide +kernel))) rfl)⟩
theorem zc_X9_pair : Cond.code yX9_pair cX9_pair 4 (some .int) ∈ zTb := (zTb_mem (zm_9 (List.mem_of_getElem? (i := 83) (by decide +kernel))) rfl)
theorem zi_X9_pair : Cond.initialized yX9_pair.cls ∈ zTb := (zTb_mem (zm_1 (List.mem_of_getElem? (i := 9) (by decide +kernel))) rfl)
theorem zx_X9_pair : Cond.instanceMethod yX9_pair ∈ zTb := (zTb_mem (zm_9 (List.mem_of_getElem? (i := 81) (by decide +kernel))) rfl)
theorem zv_X9_pair : Cond.selects yX9_pair.cls yX9_pair yX9_pair ∈ zTb := (zTb_mem (zm_9 (List.mem_of_getElem? (i := 82) (by decide +kernel))) rfl)
theorem zd_X9_pair : yX9_pair.cls ≠ "java/lang/invoke/MethodHandle" ∧ yX9_pair.cls ≠ "java/lang/invoke/VarHandle" ∧ (parseMethodDescriptor yX9_pair.desc).map (fun d => d.parameters.length) = some 2 := by decide +kernel
theorem klL_196 : Cond.methodLink RL 196 yX9_pair ∈ zTb := (zTb_mem (zm_9 (List.mem_of_getElem? (i := 80) (by decide +kernel))) rfl)
theorem kvL_196 : zCv RL 196 yX9_pair cX9_pair 4 (some .int) 2 9 := ⟨⟨zc_X9_pair, zi_X9_pair, by decide, zd_X9_pair, Or.inl klL_196⟩, zx_X9_pair, zv_X9_pair, rfl⟩
theorem kwL_197 : zCwr [(0, 9, 12, 13)] RL 197 yL_bound cL_bound 4 (some .int) 3 := ⟨(zTb_mem (zm_6 (List.mem_of_getElem? (i := 23) (by decide +kernel))) rfl), (zTb_mem (zm_1 (List.mem_of_getElem? (i := 0) (by decide +kernel))) rfl), by decide, by decide +kernel, (zTb_mem (zm_6 (List.mem_of_getElem? (i := 21) (by decide +kernel))) rfl), (zTb_mem (zm_6 (List.mem_of_getElem? (i := 22) (by decide +kernel))) rfl)⟩
theorem zc_X9_bound : Cond.code yX9_bound cX9_bound 8 (some .int) ∈ zTb := (zTb_mem (zm_9 (List.mem_of_getElem? (i := 95) (by decide +kernel))) rfl)
theorem zi_X9_bound : Cond.initialized yX9_bound.cls ∈ zTb := (zTb_mem (zm_1 (List.mem_of_getElem? (i := 9) (by decide +kernel))) rfl)
theorem zx_X9_bound : Cond.instanceMethod yX9_bound ∈ zTb := (zTb_mem (zm_9 (List.mem_of_getElem? (i := 93) (by decide +kernel))) rfl)
theorem zv_X9_bound : Cond.selects yX9_bound.cls yX9_bound yX9_bound ∈ zTb := (zTb_mem (zm_9 (List.mem_of_getElem? (i := 94) (by decide +kernel))) rfl)
theorem zd_X9_bound : yX9_bound.cls ≠ "java/lang/invoke/MethodHandle" ∧ yX9_bound.cls ≠ "java/lang/invoke/VarHandle" ∧ (parseMethodDescriptor yX9_bound.desc).map (fun d => d.parameters.length) = some 1 := by decide +kernel
theorem klL_199 : Cond.methodLink RL 199 yX9_bound ∈ zTb := (zTb_mem (zm_9 (List.mem_of_getElem? (i := 92) (by decide +kernel))) rfl)
theorem kvL_199 : zCv RL 199 yX9_bound cX9_bound 8 (some .int) 1 9 := ⟨⟨zc_X9_bound, zi_X9_bound, by decide, zd_X9_bound, Or.inl klL_199⟩, zx_X9_bound, zv_X9_bound, rfl⟩
theorem kwL_200 : zCwr [(0, 10, 13, 13)] RL 200 yL_need cL_need 5 (some .int) 4 := ⟨(zTb_mem (zm_6 (List.mem_of_getElem? (i := 34) (by decide +kernel))) rfl), (zTb_mem (zm_1 (List.mem_of_getElem? (i := 0) (by decide +kernel))) rfl), by decide, by decide +kernel, (zTb_mem (zm_6 (List.mem_of_getElem? (i := 32) (by decide +kernel))) rfl), (zTb_mem (zm_6 (List.mem_of_getElem? (i := 33) (by decide +kernel))) rfl)⟩
theorem zc_X9_need : Cond.code yX9_need cX9_need 6 (some .int) ∈ zTb := (zTb_mem (zm_9 (List.mem_of_getElem? (i := 99) (by decide +kernel))) rfl)
theorem zi_X9_need : Cond.initialized yX9_need.cls ∈ zTb := (zTb_mem (zm_1 (List.mem_of_getElem? (i := 9) (by decide +kernel))) rfl)
theorem zx_X9_need : Cond.instanceMethod yX9_need ∈ zTb := (zTb_mem (zm_9 (List.mem_of_getElem? (i := 97) (by decide +kernel))) rfl)
theorem zv_X9_need : Cond.selects yX9_need.cls yX9_need yX9_need ∈ zTb := (zTb_mem (zm_9 (List.mem_of_getElem? (i := 98) (by decide +kernel))) rfl)
theorem zd_X9_need : yX9_need.cls ≠ "java/lang/invoke/MethodHandle" ∧ yX9_need.cls ≠ "java/lang/invoke/VarHandle" ∧ (parseMethodDescriptor yX9_need.desc).map (fun d => d.parameters.length) = some 2 := by decide +kernel
theorem klL_202 : Cond.methodLink RL 202 yX9_need ∈ zTb := (zTb_mem (zm_9 (List.mem_of_getElem? (i := 96) (by decide +kernel))) rfl)
theorem kvL_202 : zCv RL 202 yX9_need cX9_need 6 (some .int) 2 9 := ⟨⟨zc_X9_need, zi_X9_need, by decide, zd_X9_need, Or.inl klL_202⟩, zx_X9_need, zv_X9_need, rfl⟩
theorem zc_X8_choose : Cond.code yX8_choose cX8_choose 4 (some .int) ∈ zTb := (zTb_mem (zm_2 (List.mem_of_getElem? (i := 162) (by decide +kernel))) rfl)
theorem zi_X8_choose : Cond.initialized yX8_choose.cls ∈ zTb := (zTb_mem (zm_1 (List.mem_of_getElem? (i := 1) (by decide +kernel))) rfl)
theorem zx_X8_choose : Cond.instanceMethod yX8_choose ∈ zTb := (zTb_mem (zm_2 (List.mem_of_getElem? (i := 160) (by decide +kernel))) rfl)
theorem zv_X8_choose : Cond.selects yX8_choose.cls yX8_choose yX8_choose ∈ zTb := (zTb_mem (zm_2 (List.mem_of_getElem? (i := 161) (by decide +kernel))) rfl)
theorem zd_X8_choose : yX8_choose.cls ≠ "java/lang/invoke/MethodHandle" ∧ yX8_choose.cls ≠ "java/lang/invoke/VarHandle" ∧ (parseMethodDescriptor yX8_choose.desc).map (fun d => d.parameters.length) = some 0 := by decide +kernel
theorem klL_203 : Cond.methodLink RL 203 yX8_choose ∈ zTb := (zTb_mem (zm_2 (List.mem_of_getElem? (i := 159) (by decide +kernel))) rfl)
theorem kvL_203 : zCv RL 203 yX8_choose cX8_choose 4 (some .int) 0 8 := ⟨⟨zc_X8_choose, zi_X8_choose, by decide, zd_X8_choose, Or.inl klL_203⟩, zx_X8_choose, zv_X8_choose, rfl⟩
theorem zc_X9_choose : Cond.code yX9_choose cX9_choose 4 (some .int) ∈ zTb := (zTb_mem (zm_9 (List.mem_of_getElem? (i := 106) (by decide +kernel))) rfl)
theorem zi_X9_choose : Cond.initialized yX9_choose.cls ∈ zTb := (zTb_mem (zm_1 (List.mem_of_getElem? (i := 9) (by decide +kernel))) rfl)
theorem zx_X9_choose : Cond.instanceMethod yX9_choose ∈ zTb := (zTb_mem (zm_9 (List.mem_of_getElem? (i := 104) (by decide +kernel))) rfl)
theorem zv_X9_choose : Cond.selects yX9_choose.cls yX9_choose yX9_choose ∈ zTb := (zTb_mem (zm_9 (List.mem_of_getElem? (i := 105) (by decide +kernel))) rfl)
theorem zd_X9_choose : yX9_choose.cls ≠ "java/lang/invoke/MethodHandle" ∧ yX9_choose.cls ≠ "java/lang/invoke/VarHandle" ∧ (parseMethodDescriptor yX9_choose.desc).map (fun d => d.parameters.length) = some 0 := by decide +kernel
theorem klL_206 : Cond.methodLink RL 206 yX9_choose ∈ zTb := (zTb_mem (zm_9 (List.mem_of_getElem? (i := 103) (by decide +kernel))) rfl)
theorem kvL_206 : zCv RL 206 yX9_choose cX9_choose 4 (some .int) 0 9 := ⟨⟨zc_X9_choose, zi_X9_choose, by decide, zd_X9_choose, Or.inl klL_206⟩, zx_X9_choose, zv_X9_choose, rfl⟩
theorem kwL_207 : zCwr [(0, 12, 15, 13)] RL 207 yL_stranger cL_stranger 6 (some .int) 5 := ⟨(zTb_mem (zm_6 (List.mem_of_getElem? (i := 46) (by decide +kernel))) rfl), (zTb_mem (zm_1 (List.mem_of_getElem? (i := 0) (by decide +kernel))) rfl), by decide, by decide +kernel, (zTb_mem (zm_6 (List.mem_of_getElem? (i := 44) (by decide +kernel))) rfl), (zTb_mem (zm_6 (List.mem_of_getElem? (i := 45) (by decide +kernel))) rfl)⟩
theorem zc_X9_stranger : Cond.code yX9_stranger cX9_stranger 10 (some .int) ∈ zTb := (zTb_mem (zm_9 (List.mem_of_getElem? (i := 110) (by decide +kernel))) rfl)
theorem zi_X9_stranger : Cond.initialized yX9_stranger.cls ∈ zTb := (zTb_mem (zm_1 (List.mem_of_getElem? (i := 9) (by decide +kernel))) rfl)
theorem zx_X9_stranger : Cond.instanceMethod yX9_stranger ∈ zTb := (zTb_mem (zm_9 (List.mem_of_getElem? (i := 108) (by decide +kernel))) rfl)
theorem zv_X9_stranger : Cond.selects yX9_stranger.cls yX9_stranger yX9_stranger ∈ zTb := (zTb_mem (zm_9 (List.mem_of_getElem? (i := 109) (by decide +kernel))) rfl)
theorem zd_X9_stranger : yX9_stranger.cls ≠ "java/lang/invoke/MethodHandle" ∧ yX9_stranger.cls ≠ "java/lang/invoke/VarHandle" ∧ (parseMethodDescriptor yX9_stranger.desc).map (fun d => d.parameters.length) = some 3 := by decide +kernel
theorem klL_209 : Cond.methodLink RL 209 yX9_stranger ∈ zTb := (zTb_mem (zm_9 (List.mem_of_getElem? (i := 107) (by decide +kernel))) rfl)
theorem kvL_209 : zCv RL 209 yX9_stranger cX9_stranger 10 (some .int) 3 9 := ⟨⟨zc_X9_stranger, zi_X9_stranger, by decide, zd_X9_stranger, Or.inl klL_209⟩, zx_X9_stranger, zv_X9_stranger, rfl⟩
theorem kwL_210 : zCwr [(0, 9, 12, 13)] RL 210 yL_night cL_night 4 (some .int) 3 := ⟨(zTb_mem (zm_6 (List.mem_of_getElem? (i := 62) (by decide +kernel))) rfl), (zTb_mem (zm_1 (List.mem_of_getElem? (i := 0) (by decide +kernel))) rfl), by decide, by decide +kernel, (zTb_mem (zm_6 (List.mem_of_getElem? (i := 60) (by decide +kernel))) rfl), (zTb_mem (zm_6 (List.mem_of_getElem? (i := 61) (by decide +kernel))) rfl)⟩
theorem zc_X9_night : Cond.code yX9_night cX9_night 7 (some .int) ∈ zTb := (zTb_mem (zm_9 (List.mem_of_getElem? (i := 114) (by decide +kernel))) rfl)
theorem zi_X9_night : Cond.initialized yX9_night.cls ∈ zTb := (zTb_mem (zm_1 (List.mem_of_getElem? (i := 9) (by decide +kernel))) rfl)
theorem zx_X9_night : Cond.instanceMethod yX9_night ∈ zTb := (zTb_mem (zm_9 (List.mem_of_getElem? (i := 112) (by decide +kernel))) rfl)
theorem zv_X9_night : Cond.selects yX9_night.cls yX9_night yX9_night ∈ zTb := (zTb_mem (zm_9 (List.mem_of_getElem? (i := 113) (by decide +kernel))) rfl)
theorem zd_X9_night : yX9_night.cls ≠ "java/lang/invoke/MethodHandle" ∧ yX9_night.cls ≠ "java/lang/invoke/VarHandle" ∧ (parseMethodDescriptor yX9_night.desc).map (fun d => d.parameters.length) = some 1 := by decide +kernel
theorem klL_212 : Cond.methodLink RL 212 yX9_night ∈ zTb := (zTb_mem (zm_9 (List.mem_of_getElem? (i := 111) (by decide +kernel))) rfl)
theorem kvL_212 : zCv RL 212 yX9_night cX9_night 7 (some .int) 1 9 := ⟨⟨zc_X9_night, zi_X9_night, by decide, zd_X9_night, Or.inl klL_212⟩, zx_X9_night, zv_X9_night, rfl⟩
theorem kwL_213 : zCwr [(0, 9, 12, 13)] RL 213 yL_best cL_best 4 (some .int) 3 := ⟨(zTb_mem (zm_6 (List.mem_of_getElem? (i := 79) (by decide +kernel))) rfl), (zTb_mem (zm_1 (List.mem_of_getElem? (i := 0) (by decide +kernel))) rfl), by decide, by decide +kernel, (zTb_mem (zm_6 (List.mem_of_getElem? (i := 77) (by decide +kernel))) rfl), (zTb_mem (zm_6 (List.mem_of_getElem? (i := 78) (by decide +kernel))) rfl)⟩
theorem zc_X9_best : Cond.code yX9_best cX9_best 10 (some .int) ∈ zTb := (zTb_mem (zm_9 (List.mem_of_getElem? (i := 118) (by decide +kernel))) rfl)
theorem zi_X9_best : Cond.initialized yX9_best.cls ∈ zTb := (zTb_mem (zm_1 (List.mem_of_getElem? (i := 9) (by decide +kernel))) rfl)
theorem zx_X9_best : Cond.instanceMethod yX9_best ∈ zTb := (zTb_mem (zm_9 (List.mem_of_getElem? (i := 116) (by decide +kernel))) rfl)
theorem zv_X9_best : Cond.selects yX9_best.cls yX9_best yX9_best ∈ zTb := (zTb_mem (zm_9 (List.mem_of_getElem? (i := 117) (by decide +kernel))) rfl)
theorem zd_X9_best : yX9_best.cls ≠ "java/lang/invoke/MethodHandle" ∧ yX9_best.cls ≠ "java/lang/invoke/VarHandle" ∧ (parseMethodDescriptor yX9_best.desc).map (fun d => d.parameters.length) = some 1 := by decide +kernel
theorem klL_215 : Cond.methodLink RL 215 yX9_best ∈ zTb := (zTb_mem (zm_9 (List.mem_of_getElem? (i := 115) (by decide +kernel))) rfl)
theorem kvL_215 : zCv RL 215 yX9_best cX9_best 10 (some .int) 1 9 := ⟨⟨zc_X9_best, zi_X9_best, by decide, zd_X9_best, Or.inl klL_215⟩, zx_X9_best, zv_X9_best, rfl⟩
theorem kwL_216 : zCwr [(0, 12, 15, 13)] RL 216 yL_run cL_run 6 (some .int) 5 := ⟨(zTb_mem (zm_6 (List.mem_of_getElem? (i := 125) (by decide +kernel))) rfl), (zTb_mem (zm_1 (List.mem_of_getElem? (i := 0) (by decide +kernel))) rfl), by decide, by decide +kernel, (zTb_mem (zm_6 (List.mem_of_getElem? (i := 123) (by decide +kernel))) rfl), (zTb_mem (zm_6 (List.mem_of_getElem? (i := 124) (by decide +kernel))) rfl)⟩
theorem zc_X9_run : Cond.code yX9_run cX9_run 4 (some .int) ∈ zTb := (zTb_mem (zm_9 (List.mem_of_getElem? (i := 133) (by decide +kernel))) rfl)
theorem zi_X9_run : Cond.initialized yX9_run.cls ∈ zTb := (zTb_mem (zm_1 (List.mem_of_getElem? (i := 9) (by decide +kernel))) rfl)
theorem zx_X9_run : Cond.instanceMethod yX9_run ∈ zTb := (zTb_mem (zm_9 (List.mem_of_getElem? (i := 131) (by decide +kernel))) rfl)
theorem zv_X9_run : Cond.selects yX9_run.cls yX9_run yX9_run ∈ zTb := (zTb_mem (zm_9 (List.mem_of_getElem? (i := 132) (by decide +kernel))) rfl)
theorem zd_X9_run : yX9_run.cls ≠ "java/lang/invoke/MethodHandle" ∧ yX9_run.cls ≠ "java/lang/invoke/VarHandle" ∧ (parseMethodDescriptor yX9_run.desc).map (fun d => d.parameters.length) = some 3 := by decide +kernel
theorem klL_218 : Cond.methodLink RL 218 yX9_run ∈ zTb := (zTb_mem (zm_9 (List.mem_of_getElem? (i := 130) (by decide +kernel))) rfl)
theorem kvL_218 : zCv RL 218 yX9_run cX9_run 4 (some .int) 3 9 := ⟨⟨zc_X9_run, zi_X9_run, by decide, zd_X9_run, Or.inl klL_218⟩, zx_X9_run, zv_X9_run, rfl⟩
theorem kwL_219 : zCwr [(0, 14, 17, 13)] RL 219 yL_lot cL_lot 7 (some .int) 6 := ⟨(zTb_mem (zm_6 (List.mem_of_getElem? (i := 188) (by decide +kernel))) rfl), (zTb_mem (zm_1 (List.mem_of_getElem? (i := 0) (by decide +kernel))) rfl), by decide, by decide +kernel, (zTb_mem (zm_6 (List.mem_of_getElem? (i := 186) (by decide +kernel))) rfl), (zTb_mem (zm_6 (List.mem_of_getElem? (i := 187) (by decide +kernel))) rfl)⟩
theorem zc_X9_lot : Cond.code yX9_lot cX9_lot 5 (some .int) ∈ zTb := (zTb_mem (zm_9 (List.mem_of_getElem? (i := 154) (by decide +kernel))) rfl)
theorem zi_X9_lot : Cond.initialized yX9_lot.cls ∈ zTb := (zTb_mem (zm_1 (List.mem_of_getElem? (i := 9) (by decide +kernel))) rfl)
theorem zx_X9_lot : Cond.instanceMethod yX9_lot ∈ zTb := (zTb_mem (zm_9 (List.mem_of_getElem? (i := 152) (by decide +kernel))) rfl)
theorem zv_X9_lot : Cond.selects yX9_lot.cls yX9_lot yX9_lot ∈ zTb := (zTb_mem (zm_9 (List.mem_of_getElem? (i := 153) (by decide +kernel))) rfl)
theorem zd_X9_lot : yX9_lot.cls ≠ "java/lang/invoke/MethodHandle" ∧ yX9_lot.cls ≠ "java/lang/invoke/VarHandle" ∧ (parseMethodDescriptor yX9_lot.desc).map (fun d => d.parameters.length) = some 4 := by decide +kernel
theorem klL_221 : Cond.methodLink RL 221 yX9_lot ∈ zTb := (zTb_mem (zm_9 (List.mem_of_getElem? (i := 151) (by decide +kernel))) rfl)
theorem kvL_221 : zCv RL 221 yX9_lot cX9_lot 5 (some .int) 4 9 := ⟨⟨zc_X9_lot, zi_X9_lot, by decide, zd_X9_lot, Or.inl klL_221⟩, zx_X9_lot, zv_X9_lot, rfl⟩
theorem kwL_222 : zCwr [(0, 9, 12, 13)] RL 222 yL_rule cL_rule 4 (some .int) 3 := ⟨(zTb_mem (zm_6 (List.mem_of_getElem? (i := 195) (by decide +kernel))) rfl), (zTb_mem (zm_1 (List.mem_of_getElem? (i := 0) (by decide +kernel))) rfl), by decide, by decide +kernel, (zTb_mem (zm_6 (List.mem_of_getElem? (i := 193) (by decide +kernel))) rfl), (zTb_mem (zm_6 (List.mem_of_getElem? (i := 194) (by decide +kernel))) rfl)⟩
theorem zc_X9_rule : Cond.code yX9_rule cX9_rule 5 (some .int) ∈ zTb := (zTb_mem (zm_9 (List.mem_of_getElem? (i := 158) (by decide +kernel))) rfl)
theorem zi_X9_rule : Cond.initialized yX9_rule.cls ∈ zTb := (zTb_mem (zm_1 (List.mem_of_getElem? (i := 9) (by decide +kernel))) rfl)
theorem zx_X9_rule : Cond.instanceMethod yX9_rule ∈ zTb := (zTb_mem (zm_9 (List.mem_of_getElem? (i := 156) (by decide +kernel))) rfl)
theorem zv_X9_rule : Cond.selects yX9_rule.cls yX9_rule yX9_rule ∈ zTb := (zTb_mem (zm_9 (List.mem_of_getElem? (i := 157) (by decide +kernel))) rfl)
theorem zd_X9_rule : yX9_rule.cls ≠ "java/lang/invoke/MethodHandle" ∧ yX9_rule.cls ≠ "java/lang/invoke/VarHandle" ∧ (parseMethodDescriptor yX9_rule.desc).map (fun d => d.parameters.length) = some 1 := by decide +kernel
theorem klL_224 : Cond.methodLink RL 224 yX9_rule ∈ zTb := (zTb_mem (zm_9 (List.mem_of_getElem? (i := 155) (by decide +kernel))) rfl)
theorem kvL_224 : zCv RL 224 yX9_rule cX9_rule 5 (some .int) 1 9 := ⟨⟨zc_X9_rule, zi_X9_rule, by decide, zd_X9_rule, Or.inl klL_224⟩, zx_X9_rule, zv_X9_rule, rfl⟩
theorem kwL_225 : zCwr [(0, 12, 15, 13)] RL 225 yL_few cL_few 6 (some .int) 5 := ⟨(zTb_mem (zm_6 (List.mem_of_getElem? (i := 206) (by decide +kernel))) rfl), (zTb_mem (zm_1 (List.mem_of_getElem? (i := 0) (by decide +kernel))) rfl), by decide, by decide +kernel, (zTb_mem (zm_6 (List.mem_of_getElem? (i := 204) (by decide +kernel))) rfl), (zTb_mem (zm_6 (List.mem_of_getElem? (i := 205) (by decide +kernel))) rfl)⟩
theorem zc_X9_few : Cond.code yX9_few cX9_few 7 (some .int) ∈ zTb := (zTb_mem (zm_9 (List.mem_of_getElem? (i := 162) (by decide +kernel))) rfl)
theorem zi_X9_few : Cond.initialized yX9_few.cls ∈ zTb := (zTb_mem (zm_1 (List.mem_of_getElem? (i := 9) (by decide +kernel))) rfl)
theorem zx_X9_few : Cond.instanceMethod yX9_few ∈ zTb := (zTb_mem (zm_9 (List.mem_of_getElem? (i := 160) (by decide +kernel))) rfl)
theorem zv_X9_few : Cond.selects yX9_few.cls yX9_few yX9_few ∈ zTb := (zTb_mem (zm_9 (List.mem_of_getElem? (i := 161) (by decide +kernel))) rfl)
theorem zd_X9_few : yX9_few.cls ≠ "java/lang/invoke/MethodHandle" ∧ yX9_few.cls ≠ "java/lang/invoke/VarHandle" ∧ (parseMethodDescriptor yX9_few.desc).map (fun d => d.parameters.length) = some 3 := by decide +kernel
theorem klL_227 : Cond.methodLink RL 227 yX9_few ∈ zTb := (zTb_mem (zm_9 (List.mem_of_getElem? (i := 159) (by decide +kernel))) rfl)
theorem kvL_227 : zCv RL 227 yX9_few cX9_few 7 (some .int) 3 9 := ⟨⟨zc_X9_few, zi_X9_few, by decide, zd_X9_few, Or.inl klL_227⟩, zx_X9_few, zv_X9_few, rfl⟩
theorem kwL_228 : zCwr [(0, 10, 13, 13)] RL 228 yL_pairs cL_pairs 5 (some .int) 4 := ⟨(zTb_mem (zm_7 (List.mem_of_getElem? (i := 57) (by decide +kernel))) rfl), (zTb_mem (zm_1 (List.mem_of_getElem? (i := 0) (by decide +kernel))) rfl), by decide, by decide +kernel, (zTb_mem (zm_7 (List.mem_of_getElem? (i := 55) (by decide +kernel))) rfl), (zTb_mem (zm_7 (List.mem_of_getElem? (i := 56) (by decide +kernel))) rfl)⟩
theorem zc_X9_pairs : Cond.code yX9_pairs cX9_pairs 3 (some .int) ∈ zTb := (zTb_mem (zm_9 (List.mem_of_getElem? (i := 193) (by decide +kernel))) rfl)
theorem zi_X9_pairs : Cond.initialized yX9_pairs.cls ∈ zTb := (zTb_mem (zm_1 (List.mem_of_getElem? (i := 9) (by decide +kernel))) rfl)
theorem zx_X9_pairs : Cond.instanceMethod yX9_pairs ∈ zTb := (zTb_mem (zm_9 (List.mem_of_getElem? (i := 191) (by decide +kernel))) rfl)
theorem zv_X9_pairs : Cond.selects yX9_pairs.cls yX9_pairs yX9_pairs ∈ zTb := (zTb_mem (zm_9 (List.mem_of_getElem? (i := 192) (by decide +kernel))) rfl)
theorem zd_X9_pairs : yX9_pairs.cls ≠ "java/lang/invoke/MethodHandle" ∧ yX9_pairs.cls ≠ "java/lang/invoke/VarHandle" ∧ (parseMethodDescriptor yX9_pairs.desc).map (fun d => d.parameters.length) = some 2 := by decide +kernel
theorem klL_230 : Cond.methodLink RL 230 yX9_pairs ∈ zTb := (zTb_mem (zm_9 (List.mem_of_getElem? (i := 190) (by decide +kernel))) rfl)
theorem kvL_230 : zCv RL 230 yX9_pairs cX9_pairs 3 (some .int) 2 9 := ⟨⟨zc_X9_pairs, zi_X9_pairs, by decide, zd_X9_pairs, Or.inl klL_230⟩, zx_X9_pairs, zv_X9_pairs, rfl⟩
theorem kwL_231 : zCwr [(0, 10, 13, 13)] RL 231 yL_edge cL_edge 5 (some .int) 4 := ⟨(zTb_mem (zm_7 (List.mem_of_getElem? (i := 82) (by decide +kernel))) rfl), (zTb_mem (zm_1 (List.mem_of_getElem? (i := 0) (by decide +kernel))) rfl), by decide, by decide +kernel, (zTb_mem (zm_7 (List.mem_of_getElem? (i := 80) (by decide +kernel))) rfl), (zTb_mem (zm_7 (List.mem_of_getElem? (i := 81) (by decide +kernel))) rfl)⟩
theorem zc_X9_edge : Cond.code yX9_edge cX9_edge 4 (some .int) ∈ zTb := (zTb_mem (zm_9 (List.mem_of_getElem? (i := 205) (by decide +kernel))) rfl)
theorem zi_X9_edge : Cond.initialized yX9_edge.cls ∈ zTb := (zTb_mem (zm_1 (List.mem_of_getElem? (i := 9) (by decide +kernel))) rfl)
theorem zx_X9_edge : Cond.instanceMethod yX9_edge ∈ zTb := (zTb_mem (zm_9 (List.mem_of_getElem? (i := 203) (by decide +kernel))) rfl)
theorem zv_X9_edge : Cond.selects yX9_edge.cls yX9_edge yX9_edge ∈ zTb := (zTb_mem (zm_9 (List.mem_of_getElem? (i := 204) (by decide +kernel))) rfl)
theorem zd_X9_edge : yX9_edge.cls ≠ "java/lang/invoke/MethodHandle" ∧ yX9_edge.cls ≠ "java/lang/invoke/VarHandle" ∧ (parseMethodDescriptor yX9_edge.desc).map (fun d => d.parameters.length) = some 2 := by decide +kernel
theorem klL_233 : Cond.methodLink RL 233 yX9_edge ∈ zTb := (zTb_mem (zm_9 (List.mem_of_getElem? (i := 202) (by decide +kernel))) rfl)
theorem kvL_233 : zCv RL 233 yX9_edge cX9_edge 4 (some .int) 2 9 := ⟨⟨zc_X9_edge, zi_X9_edge, by decide, zd_X9_edge, Or.inl klL_233⟩, zx_X9_edge, zv_X9_edge, rfl⟩
theorem kwL_234 : zCwr [(0, 18, 21, 22), (0, 18, 25, 13)] RL 234 yL_rest cL_rest 9 (some .int) 8 := ⟨(zTb_mem (zm_7 (List.mem_of_getElem? (i := 89) (by decide +kernel))) rfl), (zTb_mem (zm_1 (List.mem_of_getElem? (i := 0) (by decide +kernel))) rfl), by decide, by decide +kernel, (zTb_mem (zm_7 (List.mem_of_getElem? (i := 87) (by decide +kernel))) rfl), (zTb_mem (zm_7 (List.mem_of_getElem? (i := 88) (by decide +kernel))) rfl)⟩
theorem zc_X9_rest : Cond.code yX9_rest cX9_rest 8 (some .int) ∈ zTb := (zTb_mem (zm_9 (List.mem_of_getElem? (i := 209) (by decide +kernel))) rfl)
theorem zi_X9_rest : Cond.initialized yX9_rest.cls ∈ zTb := (zTb_mem (zm_1 (List.mem_of_getElem? (i := 9) (by decide +kernel))) rfl)
theorem zx_X9_rest : Cond.instanceMethod yX9_rest ∈ zTb := (zTb_mem (zm_9 (List.mem_of_getElem? (i := 207) (by decide +kernel))) rfl)
theorem zv_X9_rest : Cond.selects yX9_rest.cls yX9_rest yX9_rest ∈ zTb := (zTb_mem (zm_9 (List.mem_of_getElem? (i := 208) (by decide +kernel))) rfl)
theorem zd_X9_rest : yX9_rest.cls ≠ "java/lang/invoke/MethodHandle" ∧ yX9_rest.cls ≠ "java/lang/invoke/VarHandle" ∧ (parseMethodDescriptor yX9_rest.desc).map (fun d => d.parameters.length) = some 6 := by decide +kernel
theorem klL_237 : Cond.methodLink RL 237 yX9_rest ∈ zTb := (zTb_mem (zm_9 (List.mem_of_getElem? (i := 206) (by decide +kernel))) rfl)
theorem kvL_237 : zCv RL 237 yX9_rest cX9_rest 8 (some .int) 6 9 := ⟨⟨zc_X9_rest, zi_X9_rest, by decide, zd_X9_rest, Or.inl klL_237⟩, zx_X9_rest, zv_X9_rest, rfl⟩
theorem kwL_238 : zCwr [(0, 9, 12, 13)] RL 238 yL_once cL_once 4 (some .int) 3 := ⟨(zTb_mem (zm_7 (List.mem_of_getElem? (i := 102) (by decide +kernel))) rfl), (zTb_mem (zm_1 (List.mem_of_getElem? (i := 0) (by decide +kernel))) rfl), by decide, by decide +kernel, (zTb_mem (zm_7 (List.mem_of_getElem? (i := 100) (by decide +kernel))) rfl), (zTb_mem (zm_7 (List.mem_of_getElem? (i := 101) (by decide +kernel))) rfl)⟩
theorem zc_X9_once : Cond.code yX9_once cX9_once 2 (some .int) ∈ zTb := (zTb_mem (zm_9 (List.mem_of_getElem? (i := 216) (by decide +kernel))) rfl)
theorem zi_X9_once : Cond.initialized yX9_once.cls ∈ zTb := (zTb_mem (zm_1 (List.mem_of_getElem? (i := 9) (by decide +kernel))) rfl)
theorem zx_X9_once : Cond.instanceMethod yX9_once ∈ zTb := (zTb_mem (zm_9 (List.mem_of_getElem? (i := 214) (by decide +kernel))) rfl)
theorem zv_X9_once : Cond.selects yX9_once.cls yX9_once yX9_once ∈ zTb := (zTb_mem (zm_9 (List.mem_of_getElem? (i := 215) (by decide +kernel))) rfl)
theorem zd_X9_once : yX9_once.cls ≠ "java/lang/invoke/MethodHandle" ∧ yX9_once.cls ≠ "java/lang/invoke/VarHandle" ∧ (parseMethodDescriptor yX9_once.desc).map (fun d => d.parameters.length) = some 1 := by decide +kernel
theorem klL_240 : Cond.methodLink RL 240 yX9_once ∈ zTb := (zTb_mem (zm_9 (List.mem_of_getElem? (i := 213) (by decide +kernel))) rfl)
theorem kvL_240 : zCv RL 240 yX9_once cX9_once 2 (some .int) 1 9 := ⟨⟨zc_X9_once, zi_X9_once, by decide, zd_X9_once, Or.inl klL_240⟩, zx_X9_once, zv_X9_once, rfl⟩
theorem kwL_241 : zCwr [(0, 10, 13, 13)] RL 241 yL_calm cL_calm 5 (some .int) 4 := ⟨(zTb_mem (zm_7 (List.mem_of_getElem? (i := 115) (by decide +kernel))) rfl), (zTb_mem (zm_1 (List.mem_of_getElem? (i := 0) (by decide +kernel))) rfl), by decide, by decide +kernel, (zTb_mem (zm_7 (List.mem_of_getElem? (i := 113) (by decide +kernel))) rfl), (zTb_mem (zm_7 (List.mem_of_getElem? (i := 114) (by decide +kernel))) rfl)⟩
theorem zc_X9_calm : Cond.code yX9_calm cX9_calm 8 (some .int) ∈ zTb := (zTb_mem (zm_9 (List.mem_of_getElem? (i := 224) (by decide +kernel))) rfl)
theorem zi_X9_calm : Cond.initialized yX9_calm.cls ∈ zTb := (zTb_mem (zm_1 (List.mem_of_getElem? (i := 9) (by decide +kernel))) rfl)
theorem zx_X9_calm : Cond.instanceMethod yX9_calm ∈ zTb := (zTb_mem (zm_9 (List.mem_of_getElem? (i := 222) (by decide +kernel))) rfl)
theorem zv_X9_calm : Cond.selects yX9_calm.cls yX9_calm yX9_calm ∈ zTb := (zTb_mem (zm_9 (List.mem_of_getElem? (i := 223) (by decide +kernel))) rfl)
theorem zd_X9_calm : yX9_calm.cls ≠ "java/lang/invoke/MethodHandle" ∧ yX9_calm.cls ≠ "java/lang/invoke/VarHandle" ∧ (parseMethodDescriptor yX9_calm.desc).map (fun d => d.parameters.length) = some 2 := by decide +kernel
theorem klL_243 : Cond.methodLink RL 243 yX9_calm ∈ zTb := (zTb_mem (zm_9 (List.mem_of_getElem? (i := 221) (by decide +kernel))) rfl)
theorem kvL_243 : zCv RL 243 yX9_calm cX9_calm 8 (some .int) 2 9 := ⟨⟨zc_X9_calm, zi_X9_calm, by decide, zd_X9_calm, Or.inl klL_243⟩, zx_X9_calm, zv_X9_calm, rfl⟩
theorem kwL_244 : zCwr [(0, 9, 12, 13)] RL 244 yL_family cL_family 4 (some .int) 3 := ⟨(zTb_mem (zm_7 (List.mem_of_getElem? (i := 130) (by decide +kernel))) rfl), (zTb_mem (zm_1 (List.mem_of_getElem? (i := 0) (by decide +kernel))) rfl), by decide, by decide +kernel, (zTb_mem (zm_7 (List.mem_of_getElem? (i := 128) (by decide +kernel))) rfl), (zTb_mem (zm_7 (List.mem_of_getElem? (i := 129) (by decide +kernel))) rfl)⟩
theorem zc_X9_family : Cond.code yX9_family cX9_family 4 (some .int) ∈ zTb := (zTb_mem (zm_9 (List.mem_of_getElem? (i := 228) (by decide +kernel))) rfl)
theorem zi_X9_family : Cond.initialized yX9_family.cls ∈ zTb := (zTb_mem (zm_1 (List.mem_of_getElem? (i := 9) (by decide +kernel))) rfl)
theorem zx_X9_family : Cond.instanceMethod yX9_family ∈ zTb := (zTb_mem (zm_9 (List.mem_of_getElem? (i := 226) (by decide +kernel))) rfl)
theorem zv_X9_family : Cond.selects yX9_family.cls yX9_family yX9_family ∈ zTb := (zTb_mem (zm_9 (List.mem_of_getElem? (i := 227) (by decide +kernel))) rfl)
theorem zd_X9_family : yX9_family.cls ≠ "java/lang/invoke/MethodHandle" ∧ yX9_family.cls ≠ "java/lang/invoke/VarHandle" ∧ (parseMethodDescriptor yX9_family.desc).map (fun d => d.parameters.length) = some 1 := by decide +kernel
theorem klL_246 : Cond.methodLink RL 246 yX9_family ∈ zTb := (zTb_mem (zm_9 (List.mem_of_getElem? (i := 225) (by decide +kernel))) rfl)
theorem kvL_246 : zCv RL 246 yX9_family cX9_family 4 (some .int) 1 9 := ⟨⟨zc_X9_family, zi_X9_family, by decide, zd_X9_family, Or.inl klL_246⟩, zx_X9_family, zv_X9_family, rfl⟩
theorem kwL_247 : zCwr [(0, 9, 12, 13)] RL 247 yL_starved cL_starved 4 (some .int) 3 := ⟨(zTb_mem (zm_7 (List.mem_of_getElem? (i := 147) (by decide +kernel))) rfl), (zTb_mem (zm_1 (List.mem_of_getElem? (i := 0) (by decide +kernel))) rfl), by decide, by decide +kernel, (zTb_mem (zm_7 (List.mem_of_getElem? (i := 145) (by decide +kernel))) rfl), (zTb_mem (zm_7 (List.mem_of_getElem? (i := 146) (by decide +kernel))) rfl)⟩
theorem zc_X9_starved : Cond.code yX9_starved cX9_starved 2 (some .int) ∈ zTb := (zTb_mem (zm_9 (List.mem_of_getElem? (i := 236) (by decide +kernel))) rfl)
theorem zi_X9_starved : Cond.initialized yX9_starved.cls ∈ zTb := (zTb_mem (zm_1 (List.mem_of_getElem? (i := 9) (by decide +kernel))) rfl)
theorem zx_X9_starved : Cond.instanceMethod yX9_starved ∈ zTb := (zTb_mem (zm_9 (List.mem_of_getElem? (i := 234) (by decide +kernel))) rfl)
theorem zv_X9_starved : Cond.selects yX9_starved.cls yX9_starved yX9_starved ∈ zTb := (zTb_mem (zm_9 (List.mem_of_getElem? (i := 235) (by decide +kernel))) rfl)
theorem zd_X9_starved : yX9_starved.cls ≠ "java/lang/invoke/MethodHandle" ∧ yX9_starved.cls ≠ "java/lang/invoke/VarHandle" ∧ (parseMethodDescriptor yX9_starved.desc).map (fun d => d.parameters.length) = some 1 := by decide +kernel
theorem klL_249 : Cond.methodLink RL 249 yX9_starved ∈ zTb := (zTb_mem (zm_9 (List.mem_of_getElem? (i := 233) (by decide +kernel))) rfl)
theorem kvL_249 : zCv RL 249 yX9_starved cX9_starved 2 (some .int) 1 9 := ⟨⟨zc_X9_starved, zi_X9_starved, by decide, zd_X9_starved, Or.inl klL_249⟩, zx_X9_starved, zv_X9_starved, rfl⟩
theorem kwL_250 : zCwr [(0, 9, 12, 13)] RL 250 yL_slack cL_slack 4 (some .int) 3 := ⟨(zTb_mem (zm_7 (List.mem_of_getElem? (i := 154) (by decide +kernel))) rfl), (zTb_mem (zm_1 (List.mem_of_getElem? (i := 0) (by decide +kernel))) rfl), by decide, by decide +kernel, (zTb_mem (zm_7 (List.mem_of_getElem? (i := 152) (by decide +kernel))) rfl), (zTb_mem (zm_7 (List.mem_of_getElem? (i := 153) (by decide +kernel))) rfl)⟩
theorem zc_X9_slack : Cond.code yX9_slack cX9_slack 6 (some .int) ∈ zTb := (zTb_mem (zm_10 (List.mem_of_getElem? (i := 0) (by decide +kernel))) rfl)
theorem zi_X9_slack : Cond.initialized yX9_slack.cls ∈ zTb := (zTb_mem (zm_1 (List.mem_of_getElem? (i := 9) (by decide +kernel))) rfl)
theorem zx_X9_slack : Cond.instanceMethod yX9_slack ∈ zTb := (zTb_mem (zm_9 (List.mem_of_getElem? (i := 238) (by decide +kernel))) rfl)
theorem zv_X9_slack : Cond.selects yX9_slack.cls yX9_slack yX9_slack ∈ zTb := (zTb_mem (zm_9 (List.mem_of_getElem? (i := 239) (by decide +kernel))) rfl)
theorem zd_X9_slack : yX9_slack.cls ≠ "java/lang/invoke/MethodHandle" ∧ yX9_slack.cls ≠ "java/lang/invoke/VarHandle" ∧ (parseMethodDescriptor yX9_slack.desc).map (fun d => d.parameters.length) = some 1 := by decide +kernel
theorem klL_252 : Cond.methodLink RL 252 yX9_slack ∈ zTb := (zTb_mem (zm_9 (List.mem_of_getElem? (i := 237) (by decide +kernel))) rfl)
theorem kvL_252 : zCv RL 252 yX9_slack cX9_slack 6 (some .int) 1 9 := ⟨⟨zc_X9_slack, zi_X9_slack, by decide, zd_X9_slack, Or.inl klL_252⟩, zx_X9_slack, zv_X9_slack, rfl⟩
theorem kwL_253 : zCwr [(0, 12, 15, 22), (0, 12, 19, 13)] RL 253 yL_firm cL_firm 6 (some .int) 5 := ⟨(zTb_mem (zm_7 (List.mem_of_getElem? (i := 161) (by decide +kernel))) rfl), (zTb_mem (zm_1 (List.mem_of_getElem? (i := 0) (by decide +kernel))) rfl), by decide, by decide +kernel, (zTb_mem (zm_7 (List.mem_of_getElem? (i := 159) (by decide +kernel))) rfl), (zTb_mem (zm_7 (List.mem_of_getElem? (i := 160) (by decide +kernel))) rfl)⟩
theorem zc_X9_firm : Cond.code yX9_firm cX9_firm 6 (some .int) ∈ zTb := (zTb_mem (zm_10 (List.mem_of_getElem? (i := 4) (by decide +kernel))) rfl)
theorem zi_X9_firm : Cond.initialized yX9_firm.cls ∈ zTb := (zTb_mem (zm_1 (List.mem_of_getElem? (i := 9) (by decide +kernel))) rfl)
theorem zx_X9_firm : Cond.instanceMethod yX9_firm ∈ zTb := (zTb_mem (zm_10 (List.mem_of_getElem? (i := 2) (by decide +kernel))) rfl)
theorem zv_X9_firm : Cond.selects yX9_firm.cls yX9_firm yX9_firm ∈ zTb := (zTb_mem (zm_10 (List.mem_of_getElem? (i := 3) (by decide +kernel))) rfl)
theorem zd_X9_firm : yX9_firm.cls ≠ "java/lang/invoke/MethodHandle" ∧ yX9_firm.cls ≠ "java/lang/invoke/VarHandle" ∧ (parseMethodDescriptor yX9_firm.desc).map (fun d => d.parameters.length) = some 3 := by decide +kernel
theorem klL_255 : Cond.methodLink RL 255 yX9_firm ∈ zTb := (zTb_mem (zm_10 (List.mem_of_getElem? (i := 1) (by decide +kernel))) rfl)
theorem kvL_255 : zCv RL 255 yX9_firm cX9_firm 6 (some .int) 3 9 := ⟨⟨zc_X9_firm, zi_X9_firm, by decide, zd_X9_firm, Or.inl klL_255⟩, zx_X9_firm, zv_X9_firm, rfl⟩
theorem kwL_256 : zCwr [(0, 9, 12, 13)] RL 256 yL_twoDays cL_twoDays 4 (some .int) 3 := ⟨(zTb_mem (zm_7 (List.mem_of_getElem? (i := 168) (by decide +kernel))) rfl), (zTb_mem (zm_1 (List.mem_of_getElem? (i := 0) (by decide +kernel))) rfl), by decide, by decide +kernel, (zTb_mem (zm_7 (List.mem_of_getElem? (i := 166) (by decide +kernel))) rfl), (zTb_mem (zm_7 (List.mem_of_getElem? (i := 167) (by decide +kernel))) rfl)⟩
theorem zc_X9_twoDays : Cond.code yX9_twoDays cX9_twoDays 9 (some .int) ∈ zTb := (zTb_mem (zm_10 (List.mem_of_getElem? (i := 8) (by decide +kernel))) rfl)
theorem zi_X9_twoDays : Cond.initialized yX9_twoDays.cls ∈ zTb := (zTb_mem (zm_1 (List.mem_of_getElem? (i := 9) (by decide +kernel))) rfl)
theorem zx_X9_twoDays : Cond.instanceMethod yX9_twoDays ∈ zTb := (zTb_mem (zm_10 (List.mem_of_getElem? (i := 6) (by decide +kernel))) rfl)
theorem zv_X9_twoDays : Cond.selects yX9_twoDays.cls yX9_twoDays yX9_twoDays ∈ zTb := (zTb_mem (zm_10 (List.mem_of_getElem? (i := 7) (by decide +kernel))) rfl)
theorem zd_X9_twoDays : yX9_twoDays.cls ≠ "java/lang/invoke/MethodHandle" ∧ yX9_twoDays.cls ≠ "java/lang/invoke/VarHandle" ∧ (parseMethodDescriptor yX9_twoDays.desc).map (fun d => d.parameters.length) = some 1 := by decide +kernel
theorem klL_258 : Cond.methodLink RL 258 yX9_twoDays ∈ zTb := (zTb_mem (zm_10 (List.mem_of_getElem? (i := 5) (by decide +kernel))) rfl)
theorem kvL_258 : zCv RL 258 yX9_twoDays cX9_twoDays 9 (some .int) 1 9 := ⟨⟨zc_X9_twoDays, zi_X9_twoDays, by decide, zd_X9_twoDays, Or.inl klL_258⟩, zx_X9_twoDays, zv_X9_twoDays, rfl⟩
theorem zc_X8_image : Cond.code yX8_image cX8_image 1 (some .int) ∈ zTb := (zTb_mem (zm_4 (List.mem_of_getElem? (i := 88) (by decide +kernel))) rfl)
theorem zi_X8_image : Cond.initialized yX8_image.cls ∈ zTb := (zTb_mem (zm_1 (List.mem_of_getElem? (i := 1) (by decide +kernel))) rfl)
theorem zx_X8_image : Cond.instanceMethod yX8_image ∈ zTb := (zTb_mem (zm_4 (List.mem_of_getElem? (i := 86) (by decide +kernel))) rfl)
theorem zv_X8_image : Cond.selects yX8_image.cls yX8_image yX8_image ∈ zTb := (zTb_mem (zm_4 (List.mem_of_getElem? (i := 87) (by decide +kernel))) rfl)
theorem zd_X8_image : yX8_image.cls ≠ "java/lang/invoke/MethodHandle" ∧ yX8_image.cls ≠ "java/lang/invoke/VarHandle" ∧ (parseMethodDescriptor yX8_image.desc).map (fun d => d.parameters.length) = some 0 := by decide +kernel
theorem klL_259 : Cond.methodLink RL 259 yX8_image ∈ zTb := (zTb_mem (zm_4 (List.mem_of_getElem? (i := 85) (by decide +kernel))) rfl)
theorem kvL_259 : zCv RL 259 yX8_image cX8_image 1 (some .int) 0 8 := ⟨⟨zc_X8_image, zi_X8_image, by decide, zd_X8_image, Or.inl klL_259⟩, zx_X8_image, zv_X8_image, rfl⟩
theorem zc_X9_image : Cond.code yX9_image cX9_image 1 (some .int) ∈ zTb := (zTb_mem (zm_10 (List.mem_of_getElem? (i := 16) (by decide +kernel))) rfl)
theorem zi_X9_image : Cond.initialized yX9_image.cls ∈ zTb := (zTb_mem (zm_1 (List.mem_of_getElem? (i := 9) (by decide +kernel))) rfl)
theorem zx_X9_image : Cond.instanceMethod yX9_image ∈ zTb := (zTb_mem (zm_10 (List.mem_of_getElem? (i := 14) (by decide +kernel))) rfl)
theorem zv_X9_image : Cond.selects yX9_image.cls yX9_image yX9_image ∈ zTb := (zTb_mem (zm_10 (List.mem_of_getElem? (i := 15) (by decide +kernel))) rfl)
theorem zd_X9_image : yX9_image.cls ≠ "java/lang/invoke/MethodHandle" ∧ yX9_image.cls ≠ "java/lang/invoke/VarHandle" ∧ (parseMethodDescriptor yX9_image.desc).map (fun d => d.parameters.length) = some 0 := by decide +kernel
theorem klL_262 : Cond.methodLink RL 262 yX9_image ∈ zTb := (zTb_mem (zm_10 (List.mem_of_getElem? (i := 13) (by decide +kernel))) rfl)
theorem kvL_262 : zCv RL 262 yX9_image cX9_image 1 (some .int) 0 9 := ⟨⟨zc_X9_image, zi_X9_image, by decide, zd_X9_image, Or.inl klL_262⟩, zx_X9_image, zv_X9_image, rfl⟩
theorem zc_X8_restore : Cond.code yX8_restore cX8_restore 1 (some .int) ∈ zTb := (zTb_mem (zm_4 (List.mem_of_getElem? (i := 96) (by decide +kernel))) rfl)
theorem zi_X8_restore : Cond.initialized yX8_restore.cls ∈ zTb := (zTb_mem (zm_1 (List.mem_of_getElem? (i := 1) (by decide +kernel))) rfl)
theorem zx_X8_restore : Cond.instanceMethod yX8_restore ∈ zTb := (zTb_mem (zm_4 (List.mem_of_getElem? (i := 94) (by decide +kernel))) rfl)
theorem zv_X8_restore : Cond.selects yX8_restore.cls yX8_restore yX8_restore ∈ zTb := (zTb_mem (zm_4 (List.mem_of_getElem? (i := 95) (by decide +kernel))) rfl)
theorem zd_X8_restore : yX8_restore.cls ≠ "java/lang/invoke/MethodHandle" ∧ yX8_restore.cls ≠ "java/lang/invoke/VarHandle" ∧ (parseMethodDescriptor yX8_restore.desc).map (fun d => d.parameters.length) = some 0 := by decide +kernel
theorem klL_263 : Cond.methodLink RL 263 yX8_restore ∈ zTb := (zTb_mem (zm_4 (List.mem_of_getElem? (i := 93) (by decide +kernel))) rfl)
theorem kvL_263 : zCv RL 263 yX8_restore cX8_restore 1 (some .int) 0 8 := ⟨⟨zc_X8_restore, zi_X8_restore, by decide, zd_X8_restore, Or.inl klL_263⟩, zx_X8_restore, zv_X8_restore, rfl⟩
theorem zc_X9_restore : Cond.code yX9_restore cX9_restore 1 (some .int) ∈ zTb := (zTb_mem (zm_10 (List.mem_of_getElem? (i := 20) (by decide +kernel))) rfl)
theorem zi_X9_restore : Cond.initialized yX9_restore.cls ∈ zTb := (zTb_mem (zm_1 (List.mem_of_getElem? (i := 9) (by decide +kernel))) rfl)
theorem zx_X9_restore : Cond.instanceMethod yX9_restore ∈ zTb := (zTb_mem (zm_10 (List.mem_of_getElem? (i := 18) (by decide +kernel))) rfl)
theorem zv_X9_restore : Cond.selects yX9_restore.cls yX9_restore yX9_restore ∈ zTb := (zTb_mem (zm_10 (List.mem_of_getElem? (i := 19) (by decide +kernel))) rfl)
theorem zd_X9_restore : yX9_restore.cls ≠ "java/lang/invoke/MethodHandle" ∧ yX9_restore.cls ≠ "java/lang/invoke/VarHandle" ∧ (parseMethodDescriptor yX9_restore.desc).map (fun d => d.parameters.length) = some 0 := by decide +kernel
theorem klL_266 : Cond.methodLink RL 266 yX9_restore ∈ zTb := (zTb_mem (zm_10 (List.mem_of_getElem? (i := 17) (by decide +kernel))) rfl)
theorem kvL_266 : zCv RL 266 yX9_restore cX9_restore 1 (some .int) 0 9 := ⟨⟨zc_X9_restore, zi_X9_restore, by decide, zd_X9_restore, Or.inl klL_266⟩, zx_X9_restore, zv_X9_restore, rfl⟩
theorem zc_X8_count : Cond.code yX8_count cX8_count 2 (some .int) ∈ zTb := (zTb_mem (zm_4 (List.mem_of_getElem? (i := 100) (by decide +kernel))) rfl)
theorem zi_X8_count : Cond.initialized yX8_count.cls ∈ zTb := (zTb_mem (zm_1 (List.mem_of_getElem? (i := 1) (by decide +kernel))) rfl)
theorem zx_X8_count : Cond.instanceMethod yX8_count ∈ zTb := (zTb_mem (zm_4 (List.mem_of_getElem? (i := 98) (by decide +kernel))) rfl)
theorem zv_X8_count : Cond.selects yX8_count.cls yX8_count yX8_count ∈ zTb := (zTb_mem (zm_4 (List.mem_of_getElem? (i := 99) (by decide +kernel))) rfl)
theorem zd_X8_count : yX8_count.cls ≠ "java/lang/invoke/MethodHandle" ∧ yX8_count.cls ≠ "java/lang/invoke/VarHandle" ∧ (parseMethodDescriptor yX8_count.desc).map (fun d => d.parameters.length) = some 1 := by decide +kernel
theorem klL_267 : Cond.methodLink RL 267 yX8_count ∈ zTb := (zTb_mem (zm_4 (List.mem_of_getElem? (i := 97) (by decide +kernel))) rfl)
theorem kvL_267 : zCv RL 267 yX8_count cX8_count 2 (some .int) 1 8 := ⟨⟨zc_X8_count, zi_X8_count, by decide, zd_X8_count, Or.inl klL_267⟩, zx_X8_count, zv_X8_count, rfl⟩
theorem zc_X9_count : Cond.code yX9_count cX9_count 4 (some .int) ∈ zTb := (zTb_mem (zm_10 (List.mem_of_getElem? (i := 24) (by decide +kernel))) rfl)
theorem zi_X9_count : Cond.initialized yX9_count.cls ∈ zTb := (zTb_mem (zm_1 (List.mem_of_getElem? (i := 9) (by decide +kernel))) rfl)
theorem zx_X9_count : Cond.instanceMethod yX9_count ∈ zTb := (zTb_mem (zm_10 (List.mem_of_getElem? (i := 22) (by decide +kernel))) rfl)
theorem zv_X9_count : Cond.selects yX9_count.cls yX9_count yX9_count ∈ zTb := (zTb_mem (zm_10 (List.mem_of_getElem? (i := 23) (by decide +kernel))) rfl)
theorem zd_X9_count : yX9_count.cls ≠ "java/lang/invoke/MethodHandle" ∧ yX9_count.cls ≠ "java/lang/invoke/VarHandle" ∧ (parseMethodDescriptor yX9_count.desc).map (fun d => d.parameters.length) = some 1 := by decide +kernel
theorem klL_270 : Cond.methodLink RL 270 yX9_count ∈ zTb := (zTb_mem (zm_10 (List.mem_of_getElem? (i := 21) (by decide +kernel))) rfl)
theorem kvL_270 : zCv RL 270 yX9_count cX9_count 4 (some .int) 1 9 := ⟨⟨zc_X9_count, zi_X9_count, by decide, zd_X9_count, Or.inl klL_270⟩, zx_X9_count, zv_X9_count, rfl⟩
theorem knL_8 : Cond.classLink RL 8 "TwoHandles" ∈ zTb := (zTb_mem (zm_1 (List.mem_of_getElem? (i := 31) (by decide +kernel))) rfl)
theorem knL_126 : Cond.classLink RL 126 "TwoHandlesModel" ∈ zTb := (zTb_mem (zm_7 (List.mem_of_getElem? (i := 177) (by decide +kernel))) rfl)
theorem zal : Cond.arrayClass .long ∈ zTb := (zTb_mem (zm_10 (List.mem_of_getElem? (i := 25) (by decide +kernel))) rfl)
theorem znL_15 : Cond.instantiable "TwoHandles" 15 ∈ zTb := (zTb_mem (zm_1 (List.mem_of_getElem? (i := 32) (by decide +kernel))) rfl)
theorem ziL_15 : Cond.initialized "TwoHandles" ∈ zTb := (zTb_mem (zm_1 (List.mem_of_getElem? (i := 1) (by decide +kernel))) rfl)
theorem znL_46 : Cond.instantiable "TwoHandlesModel" 46 ∈ zTb := (zTb_mem (zm_7 (List.mem_of_getElem? (i := 178) (by decide +kernel))) rfl)
theorem ziL_46 : Cond.initialized "TwoHandlesModel" ∈ zTb := (zTb_mem (zm_1 (List.mem_of_getElem? (i := 9) (by decide +kernel))) rfl)
