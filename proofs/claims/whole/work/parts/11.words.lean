theorem zu_0 : ∀ w ∈ u_ws RX0 TX0 4, w ∈ zTb := by
  intro w hw
  obtain ⟨j, hj, rfl⟩ := List.mem_map.mp hw
  have hj := List.mem_range.mp hj
  match j, hj with
  | 0, _ => exact (zTb_mem (zm_2 (List.mem_of_getElem? (i := 19) (by decide +kernel))) rfl)
  | 1, _ => exact (zTb_mem (zm_2 (List.mem_of_getElem? (i := 21) (by decide +kernel))) rfl)
  | 2, _ => exact (zTb_mem (zm_2 (List.mem_of_getElem? (i := 23) (by decide +kernel))) rfl)
  | 3, _ => exact (zTb_mem (zm_2 (List.mem_of_getElem? (i := 25) (by decide +kernel))) rfl)
  | j + 4, h => omega
theorem fdX0_9 : zFd RX0 9 0 1 := ⟨RX0, TX0, 4, rfl, rfl, by decide, zu_0, rfl, (Or.inl (zTb_mem (zm_2 (List.mem_of_getElem? (i := 16) (by decide +kernel))) rfl)), nmX0, tyX0_ok⟩
theorem fdX0_15 : zFd RX0 15 0 2 := ⟨RX0, TX0, 4, rfl, rfl, by decide, zu_0, rfl, (Or.inl (zTb_mem (zm_2 (List.mem_of_getElem? (i := 17) (by decide +kernel))) rfl)), nmX0, tyX0_ok⟩
theorem fdX0_18 : zFd RX0 18 0 3 := ⟨RX0, TX0, 4, rfl, rfl, by decide, zu_0, rfl, (Or.inl (zTb_mem (zm_2 (List.mem_of_getElem? (i := 18) (by decide +kernel))) rfl)), nmX0, tyX0_ok⟩
theorem fdX0_22 : zFd RX0 22 0 0 := ⟨RX0, TX0, 4, rfl, rfl, by decide, zu_0, rfl, (Or.inl (zTb_mem (zm_2 (List.mem_of_getElem? (i := 15) (by decide +kernel))) rfl)), nmX0, tyX0_ok⟩
theorem zu_7 : ∀ w ∈ u_ws RX7 TX7 15, w ∈ zTb := by
  intro w hw
  obtain ⟨j, hj, rfl⟩ := List.mem_map.mp hw
  have hj := List.mem_range.mp hj
  match j, hj with
  | 0, _ => exact (zTb_mem (zm_1 (List.mem_of_getElem? (i := 107) (by decide +kernel))) rfl)
  | 1, _ => exact (zTb_mem (zm_1 (List.mem_of_getElem? (i := 109) (by decide +kernel))) rfl)
  | 2, _ => exact (zTb_mem (zm_1 (List.mem_of_getElem? (i := 111) (by decide +kernel))) rfl)
  | 3, _ => exact (zTb_mem (zm_1 (List.mem_of_getElem? (i := 113) (by decide +kernel))) rfl)
  | 4, _ => exact (zTb_mem (zm_1 (List.mem_of_getElem? (i := 115) (by decide +kernel))) rfl)
  | 5, _ => exact (zTb_mem (zm_1 (List.mem_of_getElem? (i := 117) (by decide +kernel))) rfl)
  | 6, _ => exact (zTb_mem (zm_1 (List.mem_of_getElem? (i := 119) (by decide +kernel))) rfl)
  | 7, _ => exact (zTb_mem (zm_1 (List.mem_of_getElem? (i := 121) (by decide +kernel))) rfl)
  | 8, _ => exact (zTb_mem (zm_1 (List.mem_of_getElem? (i := 123) (by decide +kernel))) rfl)
  | 9, _ => exact (zTb_mem (zm_1 (List.mem_of_getElem? (i := 125) (by decide +kernel))) rfl)
  | 10, _ => exact (zTb_mem (zm_1 (List.mem_of_getElem? (i := 127) (by decide +kernel))) rfl)
  | 11, _ => exact (zTb_mem (zm_1 (List.mem_of_getElem? (i := 129) (by decide +kernel))) rfl)
  | 12, _ => exact (zTb_mem (zm_1 (List.mem_of_getElem? (i := 131) (by decide +kernel))) rfl)
  | 13, _ => exact (zTb_mem (zm_1 (List.mem_of_getElem? (i := 133) (by decide +kernel))) rfl)
  | 14, _ => exact (zTb_mem (zm_1 (List.mem_of_getElem? (i := 135) (by decide +kernel))) rfl)
  | j + 15, h => omega
theorem fdX0_26 : zFd RX0 26 7 1 := ⟨RX7, TX7, 15, rfl, rfl, by decide, zu_7, rfl, (Or.inr ⟨"TwoHandles", (List.mem_filter.mpr ⟨zm_1 (List.mem_of_getElem? (i := 51) (by decide +kernel)), rfl⟩)⟩), nmX7, tyX7_ok⟩
theorem zu_1 : ∀ w ∈ u_ws RX1 TX1 11, w ∈ zTb := by
  intro w hw
  obtain ⟨j, hj, rfl⟩ := List.mem_map.mp hw
  have hj := List.mem_range.mp hj
  match j, hj with
  | 0, _ => exact (zTb_mem (zm_6 (List.mem_of_getElem? (i := 230) (by decide +kernel))) rfl)
  | 1, _ => exact (zTb_mem (zm_6 (List.mem_of_getElem? (i := 232) (by decide +kernel))) rfl)
  | 2, _ => exact (zTb_mem (zm_6 (List.mem_of_getElem? (i := 234) (by decide +kernel))) rfl)
  | 3, _ => exact (zTb_mem (zm_6 (List.mem_of_getElem? (i := 236) (by decide +kernel))) rfl)
  | 4, _ => exact (zTb_mem (zm_6 (List.mem_of_getElem? (i := 238) (by decide +kernel))) rfl)
  | 5, _ => exact (zTb_mem (zm_7 (List.mem_of_getElem? (i := 0) (by decide +kernel))) rfl)
  | 6, _ => exact (zTb_mem (zm_7 (List.mem_of_getElem? (i := 2) (by decide +kernel))) rfl)
  | 7, _ => exact (zTb_mem (zm_7 (List.mem_of_getElem? (i := 4) (by decide +kernel))) rfl)
  | 8, _ => exact (zTb_mem (zm_7 (List.mem_of_getElem? (i := 6) (by decide +kernel))) rfl)
  | 9, _ => exact (zTb_mem (zm_7 (List.mem_of_getElem? (i := 8) (by decide +kernel))) rfl)
  | 10, _ => exact (zTb_mem (zm_7 (List.mem_of_getElem? (i := 10) (by decide +kernel))) rfl)
  | j + 11, h => omega
theorem fdX1_11 : zFd RX1 11 1 1 := ⟨RX1, TX1, 11, rfl, rfl, by decide, zu_1, rfl, (Or.inl (zTb_mem (zm_6 (List.mem_of_getElem? (i := 219) (by decide +kernel))) rfl)), nmX1, tyX1_ok⟩
theorem fdX1_15 : zFd RX1 15 1 2 := ⟨RX1, TX1, 11, rfl, rfl, by decide, zu_1, rfl, (Or.inl (zTb_mem (zm_6 (List.mem_of_getElem? (i := 220) (by decide +kernel))) rfl)), nmX1, tyX1_ok⟩
theorem fdX1_18 : zFd RX1 18 1 3 := ⟨RX1, TX1, 11, rfl, rfl, by decide, zu_1, rfl, (Or.inl (zTb_mem (zm_6 (List.mem_of_getElem? (i := 221) (by decide +kernel))) rfl)), nmX1, tyX1_ok⟩
theorem fdX1_21 : zFd RX1 21 1 4 := ⟨RX1, TX1, 11, rfl, rfl, by decide, zu_1, rfl, (Or.inl (zTb_mem (zm_6 (List.mem_of_getElem? (i := 222) (by decide +kernel))) rfl)), nmX1, tyX1_ok⟩
theorem fdX1_24 : zFd RX1 24 1 5 := ⟨RX1, TX1, 11, rfl, rfl, by decide, zu_1, rfl, (Or.inl (zTb_mem (zm_6 (List.mem_of_getElem? (i := 223) (by decide +kernel))) rfl)), nmX1, tyX1_ok⟩
theorem fdX1_27 : zFd RX1 27 1 6 := ⟨RX1, TX1, 11, rfl, rfl, by decide, zu_1, rfl, (Or.inl (zTb_mem (zm_6 (List.mem_of_getElem? (i := 224) (by decide +kernel))) rfl)), nmX1, tyX1_ok⟩
theorem fdX1_30 : zFd RX1 30 1 7 := ⟨RX1, TX1, 11, rfl, rfl, by decide, zu_1, rfl, (Or.inl (zTb_mem (zm_6 (List.mem_of_getElem? (i := 225) (by decide +kernel))) rfl)), nmX1, tyX1_ok⟩
theorem fdX1_34 : zFd RX1 34 1 8 := ⟨RX1, TX1, 11, rfl, rfl, by decide, zu_1, rfl, (Or.inl (zTb_mem (zm_6 (List.mem_of_getElem? (i := 226) (by decide +kernel))) rfl)), nmX1, tyX1_ok⟩
theorem fdX1_37 : zFd RX1 37 1 9 := ⟨RX1, TX1, 11, rfl, rfl, by decide, zu_1, rfl, (Or.inl (zTb_mem (zm_6 (List.mem_of_getElem? (i := 227) (by decide +kernel))) rfl)), nmX1, tyX1_ok⟩
theorem fdX1_40 : zFd RX1 40 1 10 := ⟨RX1, TX1, 11, rfl, rfl, by decide, zu_1, rfl, (Or.inl (zTb_mem (zm_6 (List.mem_of_getElem? (i := 228) (by decide +kernel))) rfl)), nmX1, tyX1_ok⟩
theorem fdX1_43 : zFd RX1 43 1 0 := ⟨RX1, TX1, 11, rfl, rfl, by decide, zu_1, rfl, (Or.inl (zTb_mem (zm_6 (List.mem_of_getElem? (i := 218) (by decide +kernel))) rfl)), nmX1, tyX1_ok⟩
theorem zu_5 : ∀ w ∈ u_ws RX5 TX5 11, w ∈ zTb := by
  intro w hw
  obtain ⟨j, hj, rfl⟩ := List.mem_map.mp hw
  have hj := List.mem_range.mp hj
  match j, hj with
  | 0, _ => exact (zTb_mem (zm_1 (List.mem_of_getElem? (i := 200) (by decide +kernel))) rfl)
  | 1, _ => exact (zTb_mem (zm_1 (List.mem_of_getElem? (i := 202) (by decide +kernel))) rfl)
  | 2, _ => exact (zTb_mem (zm_1 (List.mem_of_getElem? (i := 204) (by decide +kernel))) rfl)
  | 3, _ => exact (zTb_mem (zm_1 (List.mem_of_getElem? (i := 206) (by decide +kernel))) rfl)
  | 4, _ => exact (zTb_mem (zm_1 (List.mem_of_getElem? (i := 208) (by decide +kernel))) rfl)
  | 5, _ => exact (zTb_mem (zm_1 (List.mem_of_getElem? (i := 210) (by decide +kernel))) rfl)
  | 6, _ => exact (zTb_mem (zm_1 (List.mem_of_getElem? (i := 212) (by decide +kernel))) rfl)
  | 7, _ => exact (zTb_mem (zm_1 (List.mem_of_getElem? (i := 214) (by decide +kernel))) rfl)
  | 8, _ => exact (zTb_mem (zm_1 (List.mem_of_getElem? (i := 216) (by decide +kernel))) rfl)
  | 9, _ => exact (zTb_mem (zm_1 (List.mem_of_getElem? (i := 218) (by decide +kernel))) rfl)
  | 10, _ => exact (zTb_mem (zm_1 (List.mem_of_getElem? (i := 220) (by decide +kernel))) rfl)
  | j + 11, h => omega
theorem fdX1_47 : zFd RX1 47 5 3 := ⟨RX5, TX5, 11, rfl, rfl, by decide, zu_5, rfl, (Or.inr ⟨"TwoHandles", (List.mem_filter.mpr ⟨zm_1 (List.mem_of_getElem? (i := 180) (by decide +kernel)), rfl⟩)⟩), nmX5, tyX5_ok⟩
theorem fdX1_50 : zFd RX1 50 7 1 := ⟨RX7, TX7, 15, rfl, rfl, by decide, zu_7, rfl, (Or.inr ⟨"TwoHandles", (List.mem_filter.mpr ⟨zm_1 (List.mem_of_getElem? (i := 53) (by decide +kernel)), rfl⟩)⟩), nmX7, tyX7_ok⟩
theorem fdX1_55 : zFd RX1 55 5 8 := ⟨RX5, TX5, 11, rfl, rfl, by decide, zu_5, rfl, (Or.inr ⟨"TwoHandles", (List.mem_filter.mpr ⟨zm_1 (List.mem_of_getElem? (i := 193) (by decide +kernel)), rfl⟩)⟩), nmX5, tyX5_ok⟩
theorem zu_2 : ∀ w ∈ u_ws RX2 TX2 6, w ∈ zTb := by
  intro w hw
  obtain ⟨j, hj, rfl⟩ := List.mem_map.mp hw
  have hj := List.mem_range.mp hj
  match j, hj with
  | 0, _ => exact (zTb_mem (zm_1 (List.mem_of_getElem? (i := 236) (by decide +kernel))) rfl)
  | 1, _ => exact (zTb_mem (zm_1 (List.mem_of_getElem? (i := 238) (by decide +kernel))) rfl)
  | 2, _ => exact (zTb_mem (zm_2 (List.mem_of_getElem? (i := 0) (by decide +kernel))) rfl)
  | 3, _ => exact (zTb_mem (zm_2 (List.mem_of_getElem? (i := 2) (by decide +kernel))) rfl)
  | 4, _ => exact (zTb_mem (zm_2 (List.mem_of_getElem? (i := 4) (by decide +kernel))) rfl)
  | 5, _ => exact (zTb_mem (zm_2 (List.mem_of_getElem? (i := 6) (by decide +kernel))) rfl)
  | j + 6, h => omega
theorem fdX2_11 : zFd RX2 11 2 1 := ⟨RX2, TX2, 6, rfl, rfl, by decide, zu_2, rfl, (Or.inl (zTb_mem (zm_1 (List.mem_of_getElem? (i := 231) (by decide +kernel))) rfl)), nmX2, tyX2_ok⟩
theorem fdX2_15 : zFd RX2 15 2 2 := ⟨RX2, TX2, 6, rfl, rfl, by decide, zu_2, rfl, (Or.inl (zTb_mem (zm_1 (List.mem_of_getElem? (i := 232) (by decide +kernel))) rfl)), nmX2, tyX2_ok⟩
theorem fdX2_18 : zFd RX2 18 2 3 := ⟨RX2, TX2, 6, rfl, rfl, by decide, zu_2, rfl, (Or.inl (zTb_mem (zm_1 (List.mem_of_getElem? (i := 233) (by decide +kernel))) rfl)), nmX2, tyX2_ok⟩
theorem fdX2_21 : zFd RX2 21 2 4 := ⟨RX2, TX2, 6, rfl, rfl, by decide, zu_2, rfl, (Or.inl (zTb_mem (zm_1 (List.mem_of_getElem? (i := 234) (by decide +kernel))) rfl)), nmX2, tyX2_ok⟩
theorem fdX2_24 : zFd RX2 24 2 5 := ⟨RX2, TX2, 6, rfl, rfl, by decide, zu_2, rfl, (Or.inl (zTb_mem (zm_1 (List.mem_of_getElem? (i := 235) (by decide +kernel))) rfl)), nmX2, tyX2_ok⟩
theorem fdX2_28 : zFd RX2 28 2 0 := ⟨RX2, TX2, 6, rfl, rfl, by decide, zu_2, rfl, (Or.inl (zTb_mem (zm_1 (List.mem_of_getElem? (i := 230) (by decide +kernel))) rfl)), nmX2, tyX2_ok⟩
theorem fdX2_32 : zFd RX2 32 5 4 := ⟨RX5, TX5, 11, rfl, rfl, by decide, zu_5, rfl, (Or.inr ⟨"TwoHandles", (List.mem_filter.mpr ⟨zm_1 (List.mem_of_getElem? (i := 183) (by decide +kernel)), rfl⟩)⟩), nmX5, tyX5_ok⟩
theorem fdX2_44 : zFd RX2 44 7 2 := ⟨RX7, TX7, 15, rfl, rfl, by decide, zu_7, rfl, (Or.inr ⟨"TwoHandles", (List.mem_filter.mpr ⟨zm_1 (List.mem_of_getElem? (i := 57) (by decide +kernel)), rfl⟩)⟩), nmX7, tyX7_ok⟩
theorem fdX2_68 : zFd RX2 68 7 11 := ⟨RX7, TX7, 15, rfl, rfl, by decide, zu_7, rfl, (Or.inr ⟨"TwoHandles", (List.mem_filter.mpr ⟨zm_1 (List.mem_of_getElem? (i := 89) (by decide +kernel)), rfl⟩)⟩), nmX7, tyX7_ok⟩
theorem zu_3 : ∀ w ∈ u_ws RX3 TX3 6, w ∈ zTb := by
  intro w hw
  obtain ⟨j, hj, rfl⟩ := List.mem_map.mp hw
  have hj := List.mem_range.mp hj
  match j, hj with
  | 0, _ => exact (zTb_mem (zm_1 (List.mem_of_getElem? (i := 152) (by decide +kernel))) rfl)
  | 1, _ => exact (zTb_mem (zm_1 (List.mem_of_getElem? (i := 154) (by decide +kernel))) rfl)
  | 2, _ => exact (zTb_mem (zm_1 (List.mem_of_getElem? (i := 156) (by decide +kernel))) rfl)
  | 3, _ => exact (zTb_mem (zm_1 (List.mem_of_getElem? (i := 158) (by decide +kernel))) rfl)
  | 4, _ => exact (zTb_mem (zm_1 (List.mem_of_getElem? (i := 160) (by decide +kernel))) rfl)
  | 5, _ => exact (zTb_mem (zm_1 (List.mem_of_getElem? (i := 162) (by decide +kernel))) rfl)
  | j + 6, h => omega
theorem fdX3_9 : zFd RX3 9 3 2 := ⟨RX3, TX3, 6, rfl, rfl, by decide, zu_3, rfl, (Or.inl (zTb_mem (zm_1 (List.mem_of_getElem? (i := 147) (by decide +kernel))) rfl)), nmX3, tyX3_ok⟩
theorem fdX3_15 : zFd RX3 15 3 3 := ⟨RX3, TX3, 6, rfl, rfl, by decide, zu_3, rfl, (Or.inl (zTb_mem (zm_1 (List.mem_of_getElem? (i := 148) (by decide +kernel))) rfl)), nmX3, tyX3_ok⟩
theorem fdX3_18 : zFd RX3 18 3 4 := ⟨RX3, TX3, 6, rfl, rfl, by decide, zu_3, rfl, (Or.inl (zTb_mem (zm_1 (List.mem_of_getElem? (i := 149) (by decide +kernel))) rfl)), nmX3, tyX3_ok⟩
theorem fdX3_21 : zFd RX3 21 3 5 := ⟨RX3, TX3, 6, rfl, rfl, by decide, zu_3, rfl, (Or.inl (zTb_mem (zm_1 (List.mem_of_getElem? (i := 150) (by decide +kernel))) rfl)), nmX3, tyX3_ok⟩
theorem fdX3_24 : zFd RX3 24 3 0 := ⟨RX3, TX3, 6, rfl, rfl, by decide, zu_3, rfl, (Or.inl (zTb_mem (zm_1 (List.mem_of_getElem? (i := 145) (by decide +kernel))) rfl)), nmX3, tyX3_ok⟩
theorem fdX3_28 : zFd RX3 28 3 1 := ⟨RX3, TX3, 6, rfl, rfl, by decide, zu_3, rfl, (Or.inl (zTb_mem (zm_1 (List.mem_of_getElem? (i := 146) (by decide +kernel))) rfl)), nmX3, tyX3_ok⟩
theorem fdX3_65 : zFd RX3 65 7 0 := ⟨RX7, TX7, 15, rfl, rfl, by decide, zu_7, rfl, (Or.inr ⟨"TwoHandles", (List.mem_filter.mpr ⟨zm_1 (List.mem_of_getElem? (i := 47) (by decide +kernel)), rfl⟩)⟩), nmX7, tyX7_ok⟩
theorem fdX3_71 : zFd RX3 71 7 1 := ⟨RX7, TX7, 15, rfl, rfl, by decide, zu_7, rfl, (Or.inr ⟨"TwoHandles", (List.mem_filter.mpr ⟨zm_1 (List.mem_of_getElem? (i := 55) (by decide +kernel)), rfl⟩)⟩), nmX7, tyX7_ok⟩
theorem fdX3_74 : zFd RX3 74 7 2 := ⟨RX7, TX7, 15, rfl, rfl, by decide, zu_7, rfl, (Or.inr ⟨"TwoHandles", (List.mem_filter.mpr ⟨zm_1 (List.mem_of_getElem? (i := 59) (by decide +kernel)), rfl⟩)⟩), nmX7, tyX7_ok⟩
theorem fdX3_92 : zFd RX3 92 7 3 := ⟨RX7, TX7, 15, rfl, rfl, by decide, zu_7, rfl, (Or.inr ⟨"TwoHandles", (List.mem_filter.mpr ⟨zm_1 (List.mem_of_getElem? (i := 66) (by decide +kernel)), rfl⟩)⟩), nmX7, tyX7_ok⟩
theorem fdX3_95 : zFd RX3 95 7 4 := ⟨RX7, TX7, 15, rfl, rfl, by decide, zu_7, rfl, (Or.inr ⟨"TwoHandles", (List.mem_filter.mpr ⟨zm_1 (List.mem_of_getElem? (i := 70) (by decide +kernel)), rfl⟩)⟩), nmX7, tyX7_ok⟩
theorem fdX3_107 : zFd RX3 107 7 7 := ⟨RX7, TX7, 15, rfl, rfl, by decide, zu_7, rfl, (Or.inr ⟨"TwoHandles", (List.mem_filter.mpr ⟨zm_1 (List.mem_of_getElem? (i := 78) (by decide +kernel)), rfl⟩)⟩), nmX7, tyX7_ok⟩
theorem fdX3_110 : zFd RX3 110 7 8 := ⟨RX7, TX7, 15, rfl, rfl, by decide, zu_7, rfl, (Or.inr ⟨"TwoHandles", (List.mem_filter.mpr ⟨zm_1 (List.mem_of_getElem? (i := 82) (by decide +kernel)), rfl⟩)⟩), nmX7, tyX7_ok⟩
theorem fdX3_113 : zFd RX3 113 7 9 := ⟨RX7, TX7, 15, rfl, rfl, by decide, zu_7, rfl, (Or.inr ⟨"TwoHandles", (List.mem_filter.mpr ⟨zm_1 (List.mem_of_getElem? (i := 85) (by decide +kernel)), rfl⟩)⟩), nmX7, tyX7_ok⟩
theorem fdX3_120 : zFd RX3 120 7 11 := ⟨RX7, TX7, 15, rfl, rfl, by decide, zu_7, rfl, (Or.inr ⟨"TwoHandles", (List.mem_filter.mpr ⟨zm_1 (List.mem_of_getElem? (i := 93) (by decide +kernel)), rfl⟩)⟩), nmX7, tyX7_ok⟩
theorem fdX3_123 : zFd RX3 123 7 12 := ⟨RX7, TX7, 15, rfl, rfl, by decide, zu_7, rfl, (Or.inr ⟨"TwoHandles", (List.mem_filter.mpr ⟨zm_1 (List.mem_of_getElem? (i := 97) (by decide +kernel)), rfl⟩)⟩), nmX7, tyX7_ok⟩
theorem fdX3_126 : zFd RX3 126 7 13 := ⟨RX7, TX7, 15, rfl, rfl, by decide, zu_7, rfl, (Or.inr ⟨"TwoHandles", (List.mem_filter.mpr ⟨zm_1 (List.mem_of_getElem? (i := 101) (by decide +kernel)), rfl⟩)⟩), nmX7, tyX7_ok⟩
theorem fdX3_129 : zFd RX3 129 7 14 := ⟨RX7, TX7, 15, rfl, rfl, by decide, zu_7, rfl, (Or.inr ⟨"TwoHandles", (List.mem_filter.mpr ⟨zm_1 (List.mem_of_getElem? (i := 105) (by decide +kernel)), rfl⟩)⟩), nmX7, tyX7_ok⟩
theorem fdX3_135 : zFd RX3 135 7 5 := ⟨RX7, TX7, 15, rfl, rfl, by decide, zu_7, rfl, (Or.inr ⟨"TwoHandles", (List.mem_filter.mpr ⟨zm_1 (List.mem_of_getElem? (i := 73) (by decide +kernel)), rfl⟩)⟩), nmX7, tyX7_ok⟩
theorem fdX3_138 : zFd RX3 138 7 6 := ⟨RX7, TX7, 15, rfl, rfl, by decide, zu_7, rfl, (Or.inr ⟨"TwoHandles", (List.mem_filter.mpr ⟨zm_1 (List.mem_of_getElem? (i := 75) (by decide +kernel)), rfl⟩)⟩), nmX7, tyX7_ok⟩
theorem zu_4 : ∀ w ∈ u_ws RX4 TX4 11, w ∈ zTb := by
  intro w hw
  obtain ⟨j, hj, rfl⟩ := List.mem_map.mp hw
  have hj := List.mem_range.mp hj
  match j, hj with
  | 0, _ => exact (zTb_mem (zm_2 (List.mem_of_getElem? (i := 47) (by decide +kernel))) rfl)
  | 1, _ => exact (zTb_mem (zm_2 (List.mem_of_getElem? (i := 49) (by decide +kernel))) rfl)
  | 2, _ => exact (zTb_mem (zm_2 (List.mem_of_getElem? (i := 51) (by decide +kernel))) rfl)
  | 3, _ => exact (zTb_mem (zm_2 (List.mem_of_getElem? (i := 53) (by decide +kernel))) rfl)
  | 4, _ => exact (zTb_mem (zm_2 (List.mem_of_getElem? (i := 55) (by decide +kernel))) rfl)
  | 5, _ => exact (zTb_mem (zm_2 (List.mem_of_getElem? (i := 57) (by decide +kernel))) rfl)
  | 6, _ => exact (zTb_mem (zm_2 (List.mem_of_getElem? (i := 59) (by decide +kernel))) rfl)
  | 7, _ => exact (zTb_mem (zm_2 (List.mem_of_getElem? (i := 61) (by decide +kernel))) rfl)
  | 8, _ => exact (zTb_mem (zm_2 (List.mem_of_getElem? (i := 63) (by decide +kernel))) rfl)
  | 9, _ => exact (zTb_mem (zm_2 (List.mem_of_getElem? (i := 65) (by decide +kernel))) rfl)
  | 10, _ => exact (zTb_mem (zm_2 (List.mem_of_getElem? (i := 67) (by decide +kernel))) rfl)
  | j + 11, h => omega
theorem fdX4_9 : zFd RX4 9 4 2 := ⟨RX4, TX4, 11, rfl, rfl, by decide, zu_4, rfl, (Or.inl (zTb_mem (zm_2 (List.mem_of_getElem? (i := 36) (by decide +kernel))) rfl)), nmX4, tyX4_ok⟩
theorem fdX4_15 : zFd RX4 15 4 3 := ⟨RX4, TX4, 11, rfl, rfl, by decide, zu_4, rfl, (Or.inl (zTb_mem (zm_2 (List.mem_of_getElem? (i := 38) (by decide +kernel))) rfl)), nmX4, tyX4_ok⟩
theorem fdX4_18 : zFd RX4 18 4 4 := ⟨RX4, TX4, 11, rfl, rfl, by decide, zu_4, rfl, (Or.inl (zTb_mem (zm_2 (List.mem_of_getElem? (i := 39) (by decide +kernel))) rfl)), nmX4, tyX4_ok⟩
theorem fdX4_21 : zFd RX4 21 4 5 := ⟨RX4, TX4, 11, rfl, rfl, by decide, zu_4, rfl, (Or.inl (zTb_mem (zm_2 (List.mem_of_getElem? (i := 40) (by decide +kernel))) rfl)), nmX4, tyX4_ok⟩
theorem fdX4_24 : zFd RX4 24 4 6 := ⟨RX4, TX4, 11, rfl, rfl, by decide, zu_4, rfl, (Or.inl (zTb_mem (zm_2 (List.mem_of_getElem? (i := 42) (by decide +kernel))) rfl)), nmX4, tyX4_ok⟩
theorem fdX4_27 : zFd RX4 27 4 7 := ⟨RX4, TX4, 11, rfl, rfl, by decide, zu_4, rfl, (Or.inl (zTb_mem (zm_2 (List.mem_of_getElem? (i := 43) (by decide +kernel))) rfl)), nmX4, tyX4_ok⟩
theorem fdX4_30 : zFd RX4 30 4 8 := ⟨RX4, TX4, 11, rfl, rfl, by decide, zu_4, rfl, (Or.inl (zTb_mem (zm_2 (List.mem_of_getElem? (i := 44) (by decide +kernel))) rfl)), nmX4, tyX4_ok⟩
theorem fdX4_33 : zFd RX4 33 4 9 := ⟨RX4, TX4, 11, rfl, rfl, by decide, zu_4, rfl, (Or.inl (zTb_mem (zm_2 (List.mem_of_getElem? (i := 45) (by decide +kernel))) rfl)), nmX4, tyX4_ok⟩
theorem fdX4_36 : zFd RX4 36 4 10 := ⟨RX4, TX4, 11, rfl, rfl, by decide, zu_4, rfl, (Or.inl (zTb_mem (zm_2 (List.mem_of_getElem? (i := 46) (by decide +kernel))) rfl)), nmX4, tyX4_ok⟩
theorem fdX4_39 : zFd RX4 39 4 0 := ⟨RX4, TX4, 11, rfl, rfl, by decide, zu_4, rfl, (Or.inl (zTb_mem (zm_2 (List.mem_of_getElem? (i := 34) (by decide +kernel))) rfl)), nmX4, tyX4_ok⟩
theorem fdX4_43 : zFd RX4 43 4 1 := ⟨RX4, TX4, 11, rfl, rfl, by decide, zu_4, rfl, (Or.inl (zTb_mem (zm_2 (List.mem_of_getElem? (i := 35) (by decide +kernel))) rfl)), nmX4, tyX4_ok⟩
theorem fdX4_47 : zFd RX4 47 5 5 := ⟨RX5, TX5, 11, rfl, rfl, by decide, zu_5, rfl, (Or.inr ⟨"TwoHandles", (List.mem_filter.mpr ⟨zm_1 (List.mem_of_getElem? (i := 187) (by decide +kernel)), rfl⟩)⟩), nmX5, tyX5_ok⟩
theorem fdX4_58 : zFd RX4 58 5 1 := ⟨RX5, TX5, 11, rfl, rfl, by decide, zu_5, rfl, (Or.inr ⟨"TwoHandles", (List.mem_filter.mpr ⟨zm_1 (List.mem_of_getElem? (i := 173) (by decide +kernel)), rfl⟩)⟩), nmX5, tyX5_ok⟩
theorem fdX4_69 : zFd RX4 69 5 2 := ⟨RX5, TX5, 11, rfl, rfl, by decide, zu_5, rfl, (Or.inr ⟨"TwoHandles", (List.mem_filter.mpr ⟨zm_1 (List.mem_of_getElem? (i := 177) (by decide +kernel)), rfl⟩)⟩), nmX5, tyX5_ok⟩
theorem fdX4_80 : zFd RX4 80 7 0 := ⟨RX7, TX7, 15, rfl, rfl, by decide, zu_7, rfl, (Or.inr ⟨"TwoHandles", (List.mem_filter.mpr ⟨zm_1 (List.mem_of_getElem? (i := 46) (by decide +kernel)), rfl⟩)⟩), nmX7, tyX7_ok⟩
theorem fdX4_85 : zFd RX4 85 7 2 := ⟨RX7, TX7, 15, rfl, rfl, by decide, zu_7, rfl, (Or.inr ⟨"TwoHandles", (List.mem_filter.mpr ⟨zm_1 (List.mem_of_getElem? (i := 58) (by decide +kernel)), rfl⟩)⟩), nmX7, tyX7_ok⟩
theorem fdX4_95 : zFd RX4 95 7 11 := ⟨RX7, TX7, 15, rfl, rfl, by decide, zu_7, rfl, (Or.inr ⟨"TwoHandles", (List.mem_filter.mpr ⟨zm_1 (List.mem_of_getElem? (i := 90) (by decide +kernel)), rfl⟩)⟩), nmX7, tyX7_ok⟩
theorem fdX4_108 : zFd RX4 108 5 4 := ⟨RX5, TX5, 11, rfl, rfl, by decide, zu_5, rfl, (Or.inr ⟨"TwoHandles", (List.mem_filter.mpr ⟨zm_1 (List.mem_of_getElem? (i := 184) (by decide +kernel)), rfl⟩)⟩), nmX5, tyX5_ok⟩
theorem fdX4_132 : zFd RX4 132 5 8 := ⟨RX5, TX5, 11, rfl, rfl, by decide, zu_5, rfl, (Or.inr ⟨"TwoHandles", (List.mem_filter.mpr ⟨zm_1 (List.mem_of_getElem? (i := 194) (by decide +kernel)), rfl⟩)⟩), nmX5, tyX5_ok⟩
theorem fdX4_135 : zFd RX4 135 7 12 := ⟨RX7, TX7, 15, rfl, rfl, by decide, zu_7, rfl, (Or.inr ⟨"TwoHandles", (List.mem_filter.mpr ⟨zm_1 (List.mem_of_getElem? (i := 96) (by decide +kernel)), rfl⟩)⟩), nmX7, tyX7_ok⟩
theorem fdX5_9 : zFd RX5 9 5 1 := ⟨RX5, TX5, 11, rfl, rfl, by decide, zu_5, rfl, (Or.inl (zTb_mem (zm_1 (List.mem_of_getElem? (i := 172) (by decide +kernel))) rfl)), nmX5, tyX5_ok⟩
theorem fdX5_15 : zFd RX5 15 5 2 := ⟨RX5, TX5, 11, rfl, rfl, by decide, zu_5, rfl, (Or.inl (zTb_mem (zm_1 (List.mem_of_getElem? (i := 176) (by decide +kernel))) rfl)), nmX5, tyX5_ok⟩
theorem fdX5_18 : zFd RX5 18 5 3 := ⟨RX5, TX5, 11, rfl, rfl, by decide, zu_5, rfl, (Or.inl (zTb_mem (zm_1 (List.mem_of_getElem? (i := 179) (by decide +kernel))) rfl)), nmX5, tyX5_ok⟩
theorem fdX5_21 : zFd RX5 21 5 4 := ⟨RX5, TX5, 11, rfl, rfl, by decide, zu_5, rfl, (Or.inl (zTb_mem (zm_1 (List.mem_of_getElem? (i := 182) (by decide +kernel))) rfl)), nmX5, tyX5_ok⟩
theorem fdX5_24 : zFd RX5 24 5 5 := ⟨RX5, TX5, 11, rfl, rfl, by decide, zu_5, rfl, (Or.inl (zTb_mem (zm_1 (List.mem_of_getElem? (i := 186) (by decide +kernel))) rfl)), nmX5, tyX5_ok⟩
theorem fdX5_27 : zFd RX5 27 5 6 := ⟨RX5, TX5, 11, rfl, rfl, by decide, zu_5, rfl, (Or.inl (zTb_mem (zm_1 (List.mem_of_getElem? (i := 189) (by decide +kernel))) rfl)), nmX5, tyX5_ok⟩
theorem fdX5_31 : zFd RX5 31 5 7 := ⟨RX5, TX5, 11, rfl, rfl, by decide, zu_5, rfl, (Or.inl (zTb_mem (zm_1 (List.mem_of_getElem? (i := 190) (by decide +kernel))) rfl)), nmX5, tyX5_ok⟩
theorem fdX5_34 : zFd RX5 34 5 8 := ⟨RX5, TX5, 11, rfl, rfl, by decide, zu_5, rfl, (Or.inl (zTb_mem (zm_1 (List.mem_of_getElem? (i := 192) (by decide +kernel))) rfl)), nmX5, tyX5_ok⟩
theorem fdX5_37 : zFd RX5 37 5 9 := ⟨RX5, TX5, 11, rfl, rfl, by decide, zu_5, rfl, (Or.inl (zTb_mem (zm_1 (List.mem_of_getElem? (i := 196) (by decide +kernel))) rfl)), nmX5, tyX5_ok⟩
theorem fdX5_40 : zFd RX5 40 5 10 := ⟨RX5, TX5, 11, rfl, rfl, by decide, zu_5, rfl, (Or.inl (zTb_mem (zm_1 (List.mem_of_getElem? (i := 198) (by decide +kernel))) rfl)), nmX5, tyX5_ok⟩
theorem fdX5_43 : zFd RX5 43 5 0 := ⟨RX5, TX5, 11, rfl, rfl, by decide, zu_5, rfl, (Or.inl (zTb_mem (zm_1 (List.mem_of_getElem? (i := 171) (by decide +kernel))) rfl)), nmX5, tyX5_ok⟩
theorem fdX5_47 : zFd RX5 47 7 3 := ⟨RX7, TX7, 15, rfl, rfl, by decide, zu_7, rfl, (Or.inr ⟨"TwoHandles", (List.mem_filter.mpr ⟨zm_1 (List.mem_of_getElem? (i := 64) (by decide +kernel)), rfl⟩)⟩), nmX7, tyX7_ok⟩
theorem fdX5_50 : zFd RX5 50 7 1 := ⟨RX7, TX7, 15, rfl, rfl, by decide, zu_7, rfl, (Or.inr ⟨"TwoHandles", (List.mem_filter.mpr ⟨zm_1 (List.mem_of_getElem? (i := 52) (by decide +kernel)), rfl⟩)⟩), nmX7, tyX7_ok⟩
theorem fdX5_51 : zFd RX5 51 7 7 := ⟨RX7, TX7, 15, rfl, rfl, by decide, zu_7, rfl, (Or.inr ⟨"TwoHandles", (List.mem_filter.mpr ⟨zm_1 (List.mem_of_getElem? (i := 77) (by decide +kernel)), rfl⟩)⟩), nmX7, tyX7_ok⟩
theorem fdX5_58 : zFd RX5 58 7 8 := ⟨RX7, TX7, 15, rfl, rfl, by decide, zu_7, rfl, (Or.inr ⟨"TwoHandles", (List.mem_filter.mpr ⟨zm_1 (List.mem_of_getElem? (i := 80) (by decide +kernel)), rfl⟩)⟩), nmX7, tyX7_ok⟩
theorem fdX5_67 : zFd RX5 67 7 4 := ⟨RX7, TX7, 15, rfl, rfl, by decide, zu_7, rfl, (Or.inr ⟨"TwoHandles", (List.mem_filter.mpr ⟨zm_1 (List.mem_of_getElem? (i := 68) (by decide +kernel)), rfl⟩)⟩), nmX7, tyX7_ok⟩
theorem fdX5_76 : zFd RX5 76 7 0 := ⟨RX7, TX7, 15, rfl, rfl, by decide, zu_7, rfl, (Or.inr ⟨"TwoHandles", (List.mem_filter.mpr ⟨zm_1 (List.mem_of_getElem? (i := 49) (by decide +kernel)), rfl⟩)⟩), nmX7, tyX7_ok⟩
theorem fdX5_108 : zFd RX5 108 7 13 := ⟨RX7, TX7, 15, rfl, rfl, by decide, zu_7, rfl, (Or.inr ⟨"TwoHandles", (List.mem_filter.mpr ⟨zm_1 (List.mem_of_getElem? (i := 102) (by decide +kernel)), rfl⟩)⟩), nmX7, tyX7_ok⟩
theorem fdX5_111 : zFd RX5 111 7 14 := ⟨RX7, TX7, 15, rfl, rfl, by decide, zu_7, rfl, (Or.inr ⟨"TwoHandles", (List.mem_filter.mpr ⟨zm_1 (List.mem_of_getElem? (i := 106) (by decide +kernel)), rfl⟩)⟩), nmX7, tyX7_ok⟩
theorem fdX5_124 : zFd RX5 124 7 12 := ⟨RX7, TX7, 15, rfl, rfl, by decide, zu_7, rfl, (Or.inr ⟨"TwoHandles", (List.mem_filter.mpr ⟨zm_1 (List.mem_of_getElem? (i := 98) (by decide +kernel)), rfl⟩)⟩), nmX7, tyX7_ok⟩
theorem fdX5_140 : zFd RX5 140 7 2 := ⟨RX7, TX7, 15, rfl, rfl, by decide, zu_7, rfl, (Or.inr ⟨"TwoHandles", (List.mem_filter.mpr ⟨zm_1 (List.mem_of_getElem? (i := 62) (by decide +kernel)), rfl⟩)⟩), nmX7, tyX7_ok⟩
theorem zu_6 : ∀ w ∈ u_ws RX6 TX6 6, w ∈ zTb := by
  intro w hw
  obtain ⟨j, hj, rfl⟩ := List.mem_map.mp hw
  have hj := List.mem_range.mp hj
  match j, hj with
  | 0, _ => exact (zTb_mem (zm_2 (List.mem_of_getElem? (i := 84) (by decide +kernel))) rfl)
  | 1, _ => exact (zTb_mem (zm_2 (List.mem_of_getElem? (i := 86) (by decide +kernel))) rfl)
  | 2, _ => exact (zTb_mem (zm_2 (List.mem_of_getElem? (i := 88) (by decide +kernel))) rfl)
  | 3, _ => exact (zTb_mem (zm_2 (List.mem_of_getElem? (i := 90) (by decide +kernel))) rfl)
  | 4, _ => exact (zTb_mem (zm_2 (List.mem_of_getElem? (i := 92) (by decide +kernel))) rfl)
  | 5, _ => exact (zTb_mem (zm_2 (List.mem_of_getElem? (i := 94) (by decide +kernel))) rfl)
  | j + 6, h => omega
theorem fdX6_9 : zFd RX6 9 6 3 := ⟨RX6, TX6, 6, rfl, rfl, by decide, zu_6, rfl, (Or.inl (zTb_mem (zm_2 (List.mem_of_getElem? (i := 81) (by decide +kernel))) rfl)), nmX6, tyX6_ok⟩
theorem fdX6_15 : zFd RX6 15 6 4 := ⟨RX6, TX6, 6, rfl, rfl, by decide, zu_6, rfl, (Or.inl (zTb_mem (zm_2 (List.mem_of_getElem? (i := 82) (by decide +kernel))) rfl)), nmX6, tyX6_ok⟩
theorem fdX6_18 : zFd RX6 18 6 5 := ⟨RX6, TX6, 6, rfl, rfl, by decide, zu_6, rfl, (Or.inl (zTb_mem (zm_2 (List.mem_of_getElem? (i := 83) (by decide +kernel))) rfl)), nmX6, tyX6_ok⟩
theorem fdX6_21 : zFd RX6 21 6 0 := ⟨RX6, TX6, 6, rfl, rfl, by decide, zu_6, rfl, (Or.inl (zTb_mem (zm_2 (List.mem_of_getElem? (i := 78) (by decide +kernel))) rfl)), nmX6, tyX6_ok⟩
theorem fdX6_30 : zFd RX6 30 6 1 := ⟨RX6, TX6, 6, rfl, rfl, by decide, zu_6, rfl, (Or.inl (zTb_mem (zm_2 (List.mem_of_getElem? (i := 79) (by decide +kernel))) rfl)), nmX6, tyX6_ok⟩
theorem fdX6_34 : zFd RX6 34 6 2 := ⟨RX6, TX6, 6, rfl, rfl, by decide, zu_6, rfl, (Or.inl (zTb_mem (zm_2 (List.mem_of_getElem? (i := 80) (by decide +kernel))) rfl)), nmX6, tyX6_ok⟩
theorem fdX6_51 : zFd RX6 51 5 1 := ⟨RX5, TX5, 11, rfl, rfl, by decide, zu_5, rfl, (Or.inr ⟨"TwoHandles", (List.mem_filter.mpr ⟨zm_1 (List.mem_of_getElem? (i := 174) (by decide +kernel)), rfl⟩)⟩), nmX5, tyX5_ok⟩
theorem fdX6_61 : zFd RX6 61 7 2 := ⟨RX7, TX7, 15, rfl, rfl, by decide, zu_7, rfl, (Or.inr ⟨"TwoHandles", (List.mem_filter.mpr ⟨zm_1 (List.mem_of_getElem? (i := 61) (by decide +kernel)), rfl⟩)⟩), nmX7, tyX7_ok⟩
theorem fdX6_66 : zFd RX6 66 7 11 := ⟨RX7, TX7, 15, rfl, rfl, by decide, zu_7, rfl, (Or.inr ⟨"TwoHandles", (List.mem_filter.mpr ⟨zm_1 (List.mem_of_getElem? (i := 91) (by decide +kernel)), rfl⟩)⟩), nmX7, tyX7_ok⟩
theorem fdX6_73 : zFd RX6 73 5 4 := ⟨RX5, TX5, 11, rfl, rfl, by decide, zu_5, rfl, (Or.inr ⟨"TwoHandles", (List.mem_filter.mpr ⟨zm_1 (List.mem_of_getElem? (i := 185) (by decide +kernel)), rfl⟩)⟩), nmX5, tyX5_ok⟩
theorem fdX7_9 : zFd RX7 9 7 0 := ⟨RX7, TX7, 15, rfl, rfl, by decide, zu_7, rfl, (Or.inl (zTb_mem (zm_1 (List.mem_of_getElem? (i := 45) (by decide +kernel))) rfl)), nmX7, tyX7_ok⟩
theorem fdX7_15 : zFd RX7 15 7 1 := ⟨RX7, TX7, 15, rfl, rfl, by decide, zu_7, rfl, (Or.inl (zTb_mem (zm_1 (List.mem_of_getElem? (i := 50) (by decide +kernel))) rfl)), nmX7, tyX7_ok⟩
theorem fdX7_18 : zFd RX7 18 7 2 := ⟨RX7, TX7, 15, rfl, rfl, by decide, zu_7, rfl, (Or.inl (zTb_mem (zm_1 (List.mem_of_getElem? (i := 56) (by decide +kernel))) rfl)), nmX7, tyX7_ok⟩
theorem fdX7_21 : zFd RX7 21 7 3 := ⟨RX7, TX7, 15, rfl, rfl, by decide, zu_7, rfl, (Or.inl (zTb_mem (zm_1 (List.mem_of_getElem? (i := 63) (by decide +kernel))) rfl)), nmX7, tyX7_ok⟩
theorem fdX7_24 : zFd RX7 24 7 4 := ⟨RX7, TX7, 15, rfl, rfl, by decide, zu_7, rfl, (Or.inl (zTb_mem (zm_1 (List.mem_of_getElem? (i := 67) (by decide +kernel))) rfl)), nmX7, tyX7_ok⟩
theorem fdX7_27 : zFd RX7 27 7 5 := ⟨RX7, TX7, 15, rfl, rfl, by decide, zu_7, rfl, (Or.inl (zTb_mem (zm_1 (List.mem_of_getElem? (i := 71) (by decide +kernel))) rfl)), nmX7, tyX7_ok⟩
theorem fdX7_30 : zFd RX7 30 7 6 := ⟨RX7, TX7, 15, rfl, rfl, by decide, zu_7, rfl, (Or.inl (zTb_mem (zm_1 (List.mem_of_getElem? (i := 74) (by decide +kernel))) rfl)), nmX7, tyX7_ok⟩
theorem fdX7_34 : zFd RX7 34 7 7 := ⟨RX7, TX7, 15, rfl, rfl, by decide, zu_7, rfl, (Or.inl (zTb_mem (zm_1 (List.mem_of_getElem? (i := 76) (by decide +kernel))) rfl)), nmX7, tyX7_ok⟩
theorem fdX7_37 : zFd RX7 37 7 8 := ⟨RX7, TX7, 15, rfl, rfl, by decide, zu_7, rfl, (Or.inl (zTb_mem (zm_1 (List.mem_of_getElem? (i := 79) (by decide +kernel))) rfl)), nmX7, tyX7_ok⟩
theorem fdX7_40 : zFd RX7 40 7 9 := ⟨RX7, TX7, 15, rfl, rfl, by decide, zu_7, rfl, (Or.inl (zTb_mem (zm_1 (List.mem_of_getElem? (i := 83) (by decide +kernel))) rfl)), nmX7, tyX7_ok⟩
theorem fdX7_43 : zFd RX7 43 7 10 := ⟨RX7, TX7, 15, rfl, rfl, by decide, zu_7, rfl, (Or.inl (zTb_mem (zm_1 (List.mem_of_getElem? (i := 86) (by decide +kernel))) rfl)), nmX7, tyX7_ok⟩
theorem fdX7_46 : zFd RX7 46 7 11 := ⟨RX7, TX7, 15, rfl, rfl, by decide, zu_7, rfl, (Or.inl (zTb_mem (zm_1 (List.mem_of_getElem? (i := 88) (by decide +kernel))) rfl)), nmX7, tyX7_ok⟩
theorem fdX7_49 : zFd RX7 49 7 12 := ⟨RX7, TX7, 15, rfl, rfl, by decide, zu_7, rfl, (Or.inl (zTb_mem (zm_1 (List.mem_of_getElem? (i := 94) (by decide +kernel))) rfl)), nmX7, tyX7_ok⟩
theorem fdX7_52 : zFd RX7 52 7 13 := ⟨RX7, TX7, 15, rfl, rfl, by decide, zu_7, rfl, (Or.inl (zTb_mem (zm_1 (List.mem_of_getElem? (i := 99) (by decide +kernel))) rfl)), nmX7, tyX7_ok⟩
theorem fdX7_55 : zFd RX7 55 7 14 := ⟨RX7, TX7, 15, rfl, rfl, by decide, zu_7, rfl, (Or.inl (zTb_mem (zm_1 (List.mem_of_getElem? (i := 103) (by decide +kernel))) rfl)), nmX7, tyX7_ok⟩
theorem zu_8 : ∀ w ∈ u_ws RX8 TX8 15, w ∈ zTb := by
  intro w hw
  obtain ⟨j, hj, rfl⟩ := List.mem_map.mp hw
  have hj := List.mem_range.mp hj
  match j, hj with
  | 0, _ => exact (zTb_mem (zm_2 (List.mem_of_getElem? (i := 112) (by decide +kernel))) rfl)
  | 1, _ => exact (zTb_mem (zm_2 (List.mem_of_getElem? (i := 114) (by decide +kernel))) rfl)
  | 2, _ => exact (zTb_mem (zm_2 (List.mem_of_getElem? (i := 116) (by decide +kernel))) rfl)
  | 3, _ => exact (zTb_mem (zm_2 (List.mem_of_getElem? (i := 118) (by decide +kernel))) rfl)
  | 4, _ => exact (zTb_mem (zm_2 (List.mem_of_getElem? (i := 120) (by decide +kernel))) rfl)
  | 5, _ => exact (zTb_mem (zm_2 (List.mem_of_getElem? (i := 122) (by decide +kernel))) rfl)
  | 6, _ => exact (zTb_mem (zm_2 (List.mem_of_getElem? (i := 124) (by decide +kernel))) rfl)
  | 7, _ => exact (zTb_mem (zm_2 (List.mem_of_getElem? (i := 126) (by decide +kernel))) rfl)
  | 8, _ => exact (zTb_mem (zm_2 (List.mem_of_getElem? (i := 128) (by decide +kernel))) rfl)
  | 9, _ => exact (zTb_mem (zm_2 (List.mem_of_getElem? (i := 130) (by decide +kernel))) rfl)
  | 10, _ => exact (zTb_mem (zm_2 (List.mem_of_getElem? (i := 132) (by decide +kernel))) rfl)
  | 11, _ => exact (zTb_mem (zm_2 (List.mem_of_getElem? (i := 134) (by decide +kernel))) rfl)
  | 12, _ => exact (zTb_mem (zm_2 (List.mem_of_getElem? (i := 136) (by decide +kernel))) rfl)
  | 13, _ => exact (zTb_mem (zm_2 (List.mem_of_getElem? (i := 138) (by decide +kernel))) rfl)
  | 14, _ => exact (zTb_mem (zm_2 (List.mem_of_getElem? (i := 140) (by decide +kernel))) rfl)
  | j + 15, h => omega
theorem fdX8_9 : zFd RX8 9 8 0 := ⟨RX8, TX8, 15, rfl, rfl, by decide, zu_8, rfl, (Or.inl (zTb_mem (zm_2 (List.mem_of_getElem? (i := 97) (by decide +kernel))) rfl)), nmX8, tyX8_ok⟩
theorem fdX8_13 : zFd RX8 13 8 1 := ⟨RX8, TX8, 15, rfl, rfl, by decide, zu_8, rfl, (Or.inl (zTb_mem (zm_2 (List.mem_of_getElem? (i := 98) (by decide +kernel))) rfl)), nmX8, tyX8_ok⟩
theorem fdX8_17 : zFd RX8 17 8 2 := ⟨RX8, TX8, 15, rfl, rfl, by decide, zu_8, rfl, (Or.inl (zTb_mem (zm_2 (List.mem_of_getElem? (i := 99) (by decide +kernel))) rfl)), nmX8, tyX8_ok⟩
theorem fdX8_23 : zFd RX8 23 8 3 := ⟨RX8, TX8, 15, rfl, rfl, by decide, zu_8, rfl, (Or.inl (zTb_mem (zm_2 (List.mem_of_getElem? (i := 100) (by decide +kernel))) rfl)), nmX8, tyX8_ok⟩
theorem fdX8_27 : zFd RX8 27 8 4 := ⟨RX8, TX8, 15, rfl, rfl, by decide, zu_8, rfl, (Or.inl (zTb_mem (zm_2 (List.mem_of_getElem? (i := 101) (by decide +kernel))) rfl)), nmX8, tyX8_ok⟩
theorem fdX8_35 : zFd RX8 35 8 5 := ⟨RX8, TX8, 15, rfl, rfl, by decide, zu_8, rfl, (Or.inl (zTb_mem (zm_2 (List.mem_of_getElem? (i := 102) (by decide +kernel))) rfl)), nmX8, tyX8_ok⟩
theorem fdX8_44 : zFd RX8 44 8 6 := ⟨RX8, TX8, 15, rfl, rfl, by decide, zu_8, rfl, (Or.inl (zTb_mem (zm_2 (List.mem_of_getElem? (i := 103) (by decide +kernel))) rfl)), nmX8, tyX8_ok⟩
theorem fdX8_48 : zFd RX8 48 8 7 := ⟨RX8, TX8, 15, rfl, rfl, by decide, zu_8, rfl, (Or.inl (zTb_mem (zm_2 (List.mem_of_getElem? (i := 104) (by decide +kernel))) rfl)), nmX8, tyX8_ok⟩
theorem fdX8_51 : zFd RX8 51 8 8 := ⟨RX8, TX8, 15, rfl, rfl, by decide, zu_8, rfl, (Or.inl (zTb_mem (zm_2 (List.mem_of_getElem? (i := 105) (by decide +kernel))) rfl)), nmX8, tyX8_ok⟩
theorem fdX8_55 : zFd RX8 55 8 9 := ⟨RX8, TX8, 15, rfl, rfl, by decide, zu_8, rfl, (Or.inl (zTb_mem (zm_2 (List.mem_of_getElem? (i := 106) (by decide +kernel))) rfl)), nmX8, tyX8_ok⟩
theorem fdX8_61 : zFd RX8 61 8 10 := ⟨RX8, TX8, 15, rfl, rfl, by decide, zu_8, rfl, (Or.inl (zTb_mem (zm_2 (List.mem_of_getElem? (i := 107) (by decide +kernel))) rfl)), nmX8, tyX8_ok⟩
theorem fdX8_68 : zFd RX8 68 8 11 := ⟨RX8, TX8, 15, rfl, rfl, by decide, zu_8, rfl, (Or.inl (zTb_mem (zm_2 (List.mem_of_getElem? (i := 108) (by decide +kernel))) rfl)), nmX8, tyX8_ok⟩
theorem fdX8_77 : zFd RX8 77 8 12 := ⟨RX8, TX8, 15, rfl, rfl, by decide, zu_8, rfl, (Or.inl (zTb_mem (zm_2 (List.mem_of_getElem? (i := 109) (by decide +kernel))) rfl)), nmX8, tyX8_ok⟩
theorem fdX8_84 : zFd RX8 84 8 13 := ⟨RX8, TX8, 15, rfl, rfl, by decide, zu_8, rfl, (Or.inl (zTb_mem (zm_2 (List.mem_of_getElem? (i := 110) (by decide +kernel))) rfl)), nmX8, tyX8_ok⟩
theorem fdX8_88 : zFd RX8 88 8 14 := ⟨RX8, TX8, 15, rfl, rfl, by decide, zu_8, rfl, (Or.inl (zTb_mem (zm_2 (List.mem_of_getElem? (i := 111) (by decide +kernel))) rfl)), nmX8, tyX8_ok⟩
theorem fdX8_107 : zFd RX8 107 3 5 := ⟨RX3, TX3, 6, rfl, rfl, by decide, zu_3, rfl, (Or.inr ⟨"TwoHandles", (List.mem_filter.mpr ⟨zm_1 (List.mem_of_getElem? (i := 151) (by decide +kernel)), rfl⟩)⟩), nmX3, tyX3_ok⟩
theorem fdX8_116 : zFd RX8 116 7 1 := ⟨RX7, TX7, 15, rfl, rfl, by decide, zu_7, rfl, (Or.inr ⟨"TwoHandles", (List.mem_filter.mpr ⟨zm_1 (List.mem_of_getElem? (i := 54) (by decide +kernel)), rfl⟩)⟩), nmX7, tyX7_ok⟩
theorem fdX8_119 : zFd RX8 119 7 0 := ⟨RX7, TX7, 15, rfl, rfl, by decide, zu_7, rfl, (Or.inr ⟨"TwoHandles", (List.mem_filter.mpr ⟨zm_1 (List.mem_of_getElem? (i := 48) (by decide +kernel)), rfl⟩)⟩), nmX7, tyX7_ok⟩
theorem fdX8_122 : zFd RX8 122 7 2 := ⟨RX7, TX7, 15, rfl, rfl, by decide, zu_7, rfl, (Or.inr ⟨"TwoHandles", (List.mem_filter.mpr ⟨zm_1 (List.mem_of_getElem? (i := 60) (by decide +kernel)), rfl⟩)⟩), nmX7, tyX7_ok⟩
theorem fdX8_125 : zFd RX8 125 7 3 := ⟨RX7, TX7, 15, rfl, rfl, by decide, zu_7, rfl, (Or.inr ⟨"TwoHandles", (List.mem_filter.mpr ⟨zm_1 (List.mem_of_getElem? (i := 65) (by decide +kernel)), rfl⟩)⟩), nmX7, tyX7_ok⟩
theorem fdX8_128 : zFd RX8 128 7 4 := ⟨RX7, TX7, 15, rfl, rfl, by decide, zu_7, rfl, (Or.inr ⟨"TwoHandles", (List.mem_filter.mpr ⟨zm_1 (List.mem_of_getElem? (i := 69) (by decide +kernel)), rfl⟩)⟩), nmX7, tyX7_ok⟩
theorem fdX8_135 : zFd RX8 135 7 5 := ⟨RX7, TX7, 15, rfl, rfl, by decide, zu_7, rfl, (Or.inr ⟨"TwoHandles", (List.mem_filter.mpr ⟨zm_1 (List.mem_of_getElem? (i := 72) (by decide +kernel)), rfl⟩)⟩), nmX7, tyX7_ok⟩
theorem fdX8_150 : zFd RX8 150 7 8 := ⟨RX7, TX7, 15, rfl, rfl, by decide, zu_7, rfl, (Or.inr ⟨"TwoHandles", (List.mem_filter.mpr ⟨zm_1 (List.mem_of_getElem? (i := 81) (by decide +kernel)), rfl⟩)⟩), nmX7, tyX7_ok⟩
theorem fdX8_153 : zFd RX8 153 5 7 := ⟨RX5, TX5, 11, rfl, rfl, by decide, zu_5, rfl, (Or.inr ⟨"TwoHandles", (List.mem_filter.mpr ⟨zm_1 (List.mem_of_getElem? (i := 191) (by decide +kernel)), rfl⟩)⟩), nmX5, tyX5_ok⟩
theorem fdX8_156 : zFd RX8 156 7 9 := ⟨RX7, TX7, 15, rfl, rfl, by decide, zu_7, rfl, (Or.inr ⟨"TwoHandles", (List.mem_filter.mpr ⟨zm_1 (List.mem_of_getElem? (i := 84) (by decide +kernel)), rfl⟩)⟩), nmX7, tyX7_ok⟩
theorem fdX8_159 : zFd RX8 159 7 10 := ⟨RX7, TX7, 15, rfl, rfl, by decide, zu_7, rfl, (Or.inr ⟨"TwoHandles", (List.mem_filter.mpr ⟨zm_1 (List.mem_of_getElem? (i := 87) (by decide +kernel)), rfl⟩)⟩), nmX7, tyX7_ok⟩
theorem fdX8_170 : zFd RX8 170 7 11 := ⟨RX7, TX7, 15, rfl, rfl, by decide, zu_7, rfl, (Or.inr ⟨"TwoHandles", (List.mem_filter.mpr ⟨zm_1 (List.mem_of_getElem? (i := 92) (by decide +kernel)), rfl⟩)⟩), nmX7, tyX7_ok⟩
theorem fdX8_173 : zFd RX8 173 7 12 := ⟨RX7, TX7, 15, rfl, rfl, by decide, zu_7, rfl, (Or.inr ⟨"TwoHandles", (List.mem_filter.mpr ⟨zm_1 (List.mem_of_getElem? (i := 95) (by decide +kernel)), rfl⟩)⟩), nmX7, tyX7_ok⟩
theorem fdX8_176 : zFd RX8 176 7 13 := ⟨RX7, TX7, 15, rfl, rfl, by decide, zu_7, rfl, (Or.inr ⟨"TwoHandles", (List.mem_filter.mpr ⟨zm_1 (List.mem_of_getElem? (i := 100) (by decide +kernel)), rfl⟩)⟩), nmX7, tyX7_ok⟩
theorem fdX8_179 : zFd RX8 179 7 14 := ⟨RX7, TX7, 15, rfl, rfl, by decide, zu_7, rfl, (Or.inr ⟨"TwoHandles", (List.mem_filter.mpr ⟨zm_1 (List.mem_of_getElem? (i := 104) (by decide +kernel)), rfl⟩)⟩), nmX7, tyX7_ok⟩
theorem fdX8_204 : zFd RX8 204 5 1 := ⟨RX5, TX5, 11, rfl, rfl, by decide, zu_5, rfl, (Or.inr ⟨"TwoHandles", (List.mem_filter.mpr ⟨zm_1 (List.mem_of_getElem? (i := 175) (by decide +kernel)), rfl⟩)⟩), nmX5, tyX5_ok⟩
theorem fdX8_223 : zFd RX8 223 5 9 := ⟨RX5, TX5, 11, rfl, rfl, by decide, zu_5, rfl, (Or.inr ⟨"TwoHandles", (List.mem_filter.mpr ⟨zm_1 (List.mem_of_getElem? (i := 197) (by decide +kernel)), rfl⟩)⟩), nmX5, tyX5_ok⟩
theorem fdX8_226 : zFd RX8 226 5 10 := ⟨RX5, TX5, 11, rfl, rfl, by decide, zu_5, rfl, (Or.inr ⟨"TwoHandles", (List.mem_filter.mpr ⟨zm_1 (List.mem_of_getElem? (i := 199) (by decide +kernel)), rfl⟩)⟩), nmX5, tyX5_ok⟩
theorem fdX8_312 : zFd RX8 312 1 10 := ⟨RX1, TX1, 11, rfl, rfl, by decide, zu_1, rfl, (Or.inr ⟨"TwoHandles", (List.mem_filter.mpr ⟨zm_6 (List.mem_of_getElem? (i := 229) (by decide +kernel)), rfl⟩)⟩), nmX1, tyX1_ok⟩
theorem fdX8_315 : zFd RX8 315 5 3 := ⟨RX5, TX5, 11, rfl, rfl, by decide, zu_5, rfl, (Or.inr ⟨"TwoHandles", (List.mem_filter.mpr ⟨zm_1 (List.mem_of_getElem? (i := 181) (by decide +kernel)), rfl⟩)⟩), nmX5, tyX5_ok⟩
theorem fdX8_350 : zFd RX8 350 4 5 := ⟨RX4, TX4, 11, rfl, rfl, by decide, zu_4, rfl, (Or.inr ⟨"TwoHandles", (List.mem_filter.mpr ⟨zm_2 (List.mem_of_getElem? (i := 41) (by decide +kernel)), rfl⟩)⟩), nmX4, tyX4_ok⟩
theorem fdX8_359 : zFd RX8 359 5 5 := ⟨RX5, TX5, 11, rfl, rfl, by decide, zu_5, rfl, (Or.inr ⟨"TwoHandles", (List.mem_filter.mpr ⟨zm_1 (List.mem_of_getElem? (i := 188) (by decide +kernel)), rfl⟩)⟩), nmX5, tyX5_ok⟩
theorem fdX8_380 : zFd RX8 380 5 2 := ⟨RX5, TX5, 11, rfl, rfl, by decide, zu_5, rfl, (Or.inr ⟨"TwoHandles", (List.mem_filter.mpr ⟨zm_1 (List.mem_of_getElem? (i := 178) (by decide +kernel)), rfl⟩)⟩), nmX5, tyX5_ok⟩
theorem fdX8_389 : zFd RX8 389 5 8 := ⟨RX5, TX5, 11, rfl, rfl, by decide, zu_5, rfl, (Or.inr ⟨"TwoHandles", (List.mem_filter.mpr ⟨zm_1 (List.mem_of_getElem? (i := 195) (by decide +kernel)), rfl⟩)⟩), nmX5, tyX5_ok⟩
theorem fdX8_390 : zFd RX8 390 4 2 := ⟨RX4, TX4, 11, rfl, rfl, by decide, zu_4, rfl, (Or.inr ⟨"TwoHandles", (List.mem_filter.mpr ⟨zm_2 (List.mem_of_getElem? (i := 37) (by decide +kernel)), rfl⟩)⟩), nmX4, tyX4_ok⟩
theorem zu_9 : ∀ w ∈ u_ws RX9 TX9 46, w ∈ zTb := by
  intro w hw
  obtain ⟨j, hj, rfl⟩ := List.mem_map.mp hw
  have hj := List.mem_range.mp hj
  match j, hj with
  | 0, _ => exact (zTb_mem (zm_7 (List.mem_of_getElem? (i := 233) (by decide +kernel))) rfl)
  | 1, _ => exact (zTb_mem (zm_7 (List.mem_of_getElem? (i := 235) (by decide +kernel))) rfl)
  | 2, _ => exact (zTb_mem (zm_7 (List.mem_of_getElem? (i := 237) (by decide +kernel))) rfl)
  | 3, _ => exact (zTb_mem (zm_7 (List.mem_of_getElem? (i := 239) (by decide +kernel))) rfl)
  | 4, _ => exact (zTb_mem (zm_8 (List.mem_of_getElem? (i := 1) (by decide +kernel))) rfl)
  | 5, _ => exact (zTb_mem (zm_8 (List.mem_of_getElem? (i := 3) (by decide +kernel))) rfl)
  | 6, _ => exact (zTb_mem (zm_8 (List.mem_of_getElem? (i := 5) (by decide +kernel))) rfl)
  | 7, _ => exact (zTb_mem (zm_8 (List.mem_of_getElem? (i := 7) (by decide +kernel))) rfl)
  | 8, _ => exact (zTb_mem (zm_8 (List.mem_of_getElem? (i := 9) (by decide +kernel))) rfl)
  | 9, _ => exact (zTb_mem (zm_8 (List.mem_of_getElem? (i := 11) (by decide +kernel))) rfl)
  | 10, _ => exact (zTb_mem (zm_8 (List.mem_of_getElem? (i := 13) (by decide +kernel))) rfl)
  | 11, _ => exact (zTb_mem (zm_8 (List.mem_of_getElem? (i := 15) (by decide +kernel))) rfl)
  | 12, _ => exact (zTb_mem (zm_8 (List.mem_of_getElem? (i := 17) (by decide +kernel))) rfl)
  | 13, _ => exact (zTb_mem (zm_8 (List.mem_of_getElem? (i := 19) (by decide +kernel))) rfl)
  | 14, _ => exact (zTb_mem (zm_8 (List.mem_of_getElem? (i := 21) (by decide +kernel))) rfl)
  | 15, _ => exact (zTb_mem (zm_8 (List.mem_of_getElem? (i := 23) (by decide +kernel))) rfl)
  | 16, _ => exact (zTb_mem (zm_8 (List.mem_of_getElem? (i := 25) (by decide +kernel))) rfl)
  | 17, _ => exact (zTb_mem (zm_8 (List.mem_of_getElem? (i := 27) (by decide +kernel))) rfl)
  | 18, _ => exact (zTb_mem (zm_8 (List.mem_of_getElem? (i := 29) (by decide +kernel))) rfl)
  | 19, _ => exact (zTb_mem (zm_8 (List.mem_of_getElem? (i := 31) (by decide +kernel))) rfl)
  | 20, _ => exact (zTb_mem (zm_8 (List.mem_of_getElem? (i := 33) (by decide +kernel))) rfl)
  | 21, _ => exact (zTb_mem (zm_8 (List.mem_of_getElem? (i := 35) (by decide +kernel))) rfl)
  | 22, _ => exact (zTb_mem (zm_8 (List.mem_of_getElem? (i := 37) (by decide +kernel))) rfl)
  | 23, _ => exact (zTb_mem (zm_8 (List.mem_of_getElem? (i := 39) (by decide +kernel))) rfl)
  | 24, _ => exact (zTb_mem (zm_8 (List.mem_of_getElem? (i := 41) (by decide +kernel))) rfl)
  | 25, _ => exact (zTb_mem (zm_8 (List.mem_of_getElem? (i := 43) (by decide +kernel))) rfl)
  | 26, _ => exact (zTb_mem (zm_8 (List.mem_of_getElem? (i := 45) (by decide +kernel))) rfl)
  | 27, _ => exact (zTb_mem (zm_8 (List.mem_of_getElem? (i := 47) (by decide +kernel))) rfl)
  | 28, _ => exact (zTb_mem (zm_8 (List.mem_of_getElem? (i := 49) (by decide +kernel))) rfl)
  | 29, _ => exact (zTb_mem (zm_8 (List.mem_of_getElem? (i := 51) (by decide +kernel))) rfl)
  | 30, _ => exact (zTb_mem (zm_8 (List.mem_of_getElem? (i := 53) (by decide +kernel))) rfl)
  | 31, _ => exact (zTb_mem (zm_8 (List.mem_of_getElem? (i := 55) (by decide +kernel))) rfl)
  | 32, _ => exact (zTb_mem (zm_8 (List.mem_of_getElem? (i := 57) (by decide +kernel))) rfl)
  | 33, _ => exact (zTb_mem (zm_8 (List.mem_of_getElem? (i := 59) (by decide +kernel))) rfl)
  | 34, _ => exact (zTb_mem (zm_8 (List.mem_of_getElem? (i := 61) (by decide +kernel))) rfl)
  | 35, _ => exact (zTb_mem (zm_8 (List.mem_of_getElem? (i := 63) (by decide +kernel))) rfl)
  | 36, _ => exact (zTb_mem (zm_8 (List.mem_of_getElem? (i := 65) (by decide +kernel))) rfl)
  | 37, _ => exact (zTb_mem (zm_8 (List.mem_of_getElem? (i := 67) (by decide +kernel))) rfl)
  | 38, _ => exact (zTb_mem (zm_8 (List.mem_of_getElem? (i := 69) (by decide +kernel))) rfl)
  | 39, _ => exact (zTb_mem (zm_8 (List.mem_of_getElem? (i := 71) (by decide +kernel))) rfl)
  | 40, _ => exact (zTb_mem (zm_8 (List.mem_of_getElem? (i := 73) (by decide +kernel))) rfl)
  | 41, _ => exact (zTb_mem (zm_8 (List.mem_of_getElem? (i := 75) (by decide +kernel))) rfl)
  | 42, _ => exact (zTb_mem (zm_8 (List.mem_of_getElem? (i := 77) (by decide +kernel))) rfl)
  | 43, _ => exact (zTb_mem (zm_8 (List.mem_of_getElem? (i := 79) (by decide +kernel))) rfl)
  | 44, _ => exact (zTb_mem (zm_8 (List.mem_of_getElem? (i := 81) (by decide +kernel))) rfl)
  | 45, _ => exact (zTb_mem (zm_8 (List.mem_of_getElem? (i := 83) (by decide +kernel))) rfl)
  | j + 46, h => omega
theorem fdX9_9 : zFd RX9 9 9 3 := ⟨RX9, TX9, 46, rfl, rfl, by decide, zu_9, rfl, (Or.inl (zTb_mem (zm_7 (List.mem_of_getElem? (i := 190) (by decide +kernel))) rfl)), nmX9, tyX9_ok⟩
theorem fdX9_13 : zFd RX9 13 9 8 := ⟨RX9, TX9, 46, rfl, rfl, by decide, zu_9, rfl, (Or.inl (zTb_mem (zm_7 (List.mem_of_getElem? (i := 195) (by decide +kernel))) rfl)), nmX9, tyX9_ok⟩
theorem fdX9_17 : zFd RX9 17 9 9 := ⟨RX9, TX9, 46, rfl, rfl, by decide, zu_9, rfl, (Or.inl (zTb_mem (zm_7 (List.mem_of_getElem? (i := 196) (by decide +kernel))) rfl)), nmX9, tyX9_ok⟩
theorem fdX9_20 : zFd RX9 20 9 10 := ⟨RX9, TX9, 46, rfl, rfl, by decide, zu_9, rfl, (Or.inl (zTb_mem (zm_7 (List.mem_of_getElem? (i := 197) (by decide +kernel))) rfl)), nmX9, tyX9_ok⟩
theorem fdX9_23 : zFd RX9 23 9 11 := ⟨RX9, TX9, 46, rfl, rfl, by decide, zu_9, rfl, (Or.inl (zTb_mem (zm_7 (List.mem_of_getElem? (i := 198) (by decide +kernel))) rfl)), nmX9, tyX9_ok⟩
theorem fdX9_28 : zFd RX9 28 9 12 := ⟨RX9, TX9, 46, rfl, rfl, by decide, zu_9, rfl, (Or.inl (zTb_mem (zm_7 (List.mem_of_getElem? (i := 199) (by decide +kernel))) rfl)), nmX9, tyX9_ok⟩
theorem fdX9_31 : zFd RX9 31 9 13 := ⟨RX9, TX9, 46, rfl, rfl, by decide, zu_9, rfl, (Or.inl (zTb_mem (zm_7 (List.mem_of_getElem? (i := 200) (by decide +kernel))) rfl)), nmX9, tyX9_ok⟩
theorem fdX9_34 : zFd RX9 34 9 14 := ⟨RX9, TX9, 46, rfl, rfl, by decide, zu_9, rfl, (Or.inl (zTb_mem (zm_7 (List.mem_of_getElem? (i := 201) (by decide +kernel))) rfl)), nmX9, tyX9_ok⟩
theorem fdX9_37 : zFd RX9 37 9 15 := ⟨RX9, TX9, 46, rfl, rfl, by decide, zu_9, rfl, (Or.inl (zTb_mem (zm_7 (List.mem_of_getElem? (i := 202) (by decide +kernel))) rfl)), nmX9, tyX9_ok⟩
theorem fdX9_40 : zFd RX9 40 9 16 := ⟨RX9, TX9, 46, rfl, rfl, by decide, zu_9, rfl, (Or.inl (zTb_mem (zm_7 (List.mem_of_getElem? (i := 203) (by decide +kernel))) rfl)), nmX9, tyX9_ok⟩
theorem fdX9_43 : zFd RX9 43 9 17 := ⟨RX9, TX9, 46, rfl, rfl, by decide, zu_9, rfl, (Or.inl (zTb_mem (zm_7 (List.mem_of_getElem? (i := 204) (by decide +kernel))) rfl)), nmX9, tyX9_ok⟩
theorem fdX9_46 : zFd RX9 46 9 18 := ⟨RX9, TX9, 46, rfl, rfl, by decide, zu_9, rfl, (Or.inl (zTb_mem (zm_7 (List.mem_of_getElem? (i := 205) (by decide +kernel))) rfl)), nmX9, tyX9_ok⟩
theorem fdX9_49 : zFd RX9 49 9 19 := ⟨RX9, TX9, 46, rfl, rfl, by decide, zu_9, rfl, (Or.inl (zTb_mem (zm_7 (List.mem_of_getElem? (i := 206) (by decide +kernel))) rfl)), nmX9, tyX9_ok⟩
theorem fdX9_52 : zFd RX9 52 9 23 := ⟨RX9, TX9, 46, rfl, rfl, by decide, zu_9, rfl, (Or.inl (zTb_mem (zm_7 (List.mem_of_getElem? (i := 210) (by decide +kernel))) rfl)), nmX9, tyX9_ok⟩
theorem fdX9_55 : zFd RX9 55 9 24 := ⟨RX9, TX9, 46, rfl, rfl, by decide, zu_9, rfl, (Or.inl (zTb_mem (zm_7 (List.mem_of_getElem? (i := 211) (by decide +kernel))) rfl)), nmX9, tyX9_ok⟩
theorem fdX9_58 : zFd RX9 58 9 25 := ⟨RX9, TX9, 46, rfl, rfl, by decide, zu_9, rfl, (Or.inl (zTb_mem (zm_7 (List.mem_of_getElem? (i := 212) (by decide +kernel))) rfl)), nmX9, tyX9_ok⟩
theorem fdX9_61 : zFd RX9 61 9 26 := ⟨RX9, TX9, 46, rfl, rfl, by decide, zu_9, rfl, (Or.inl (zTb_mem (zm_7 (List.mem_of_getElem? (i := 213) (by decide +kernel))) rfl)), nmX9, tyX9_ok⟩
theorem fdX9_64 : zFd RX9 64 9 27 := ⟨RX9, TX9, 46, rfl, rfl, by decide, zu_9, rfl, (Or.inl (zTb_mem (zm_7 (List.mem_of_getElem? (i := 214) (by decide +kernel))) rfl)), nmX9, tyX9_ok⟩
theorem fdX9_67 : zFd RX9 67 9 28 := ⟨RX9, TX9, 46, rfl, rfl, by decide, zu_9, rfl, (Or.inl (zTb_mem (zm_7 (List.mem_of_getElem? (i := 215) (by decide +kernel))) rfl)), nmX9, tyX9_ok⟩
theorem fdX9_70 : zFd RX9 70 9 30 := ⟨RX9, TX9, 46, rfl, rfl, by decide, zu_9, rfl, (Or.inl (zTb_mem (zm_7 (List.mem_of_getElem? (i := 217) (by decide +kernel))) rfl)), nmX9, tyX9_ok⟩
theorem fdX9_75 : zFd RX9 75 9 32 := ⟨RX9, TX9, 46, rfl, rfl, by decide, zu_9, rfl, (Or.inl (zTb_mem (zm_7 (List.mem_of_getElem? (i := 219) (by decide +kernel))) rfl)), nmX9, tyX9_ok⟩
theorem fdX9_78 : zFd RX9 78 9 33 := ⟨RX9, TX9, 46, rfl, rfl, by decide, zu_9, rfl, (Or.inl (zTb_mem (zm_7 (List.mem_of_getElem? (i := 220) (by decide +kernel))) rfl)), nmX9, tyX9_ok⟩
theorem fdX9_82 : zFd RX9 82 9 36 := ⟨RX9, TX9, 46, rfl, rfl, by decide, zu_9, rfl, (Or.inl (zTb_mem (zm_7 (List.mem_of_getElem? (i := 223) (by decide +kernel))) rfl)), nmX9, tyX9_ok⟩
theorem fdX9_85 : zFd RX9 85 9 37 := ⟨RX9, TX9, 46, rfl, rfl, by decide, zu_9, rfl, (Or.inl (zTb_mem (zm_7 (List.mem_of_getElem? (i := 224) (by decide +kernel))) rfl)), nmX9, tyX9_ok⟩
theorem fdX9_88 : zFd RX9 88 9 38 := ⟨RX9, TX9, 46, rfl, rfl, by decide, zu_9, rfl, (Or.inl (zTb_mem (zm_7 (List.mem_of_getElem? (i := 225) (by decide +kernel))) rfl)), nmX9, tyX9_ok⟩
theorem fdX9_91 : zFd RX9 91 9 39 := ⟨RX9, TX9, 46, rfl, rfl, by decide, zu_9, rfl, (Or.inl (zTb_mem (zm_7 (List.mem_of_getElem? (i := 226) (by decide +kernel))) rfl)), nmX9, tyX9_ok⟩
theorem fdX9_94 : zFd RX9 94 9 41 := ⟨RX9, TX9, 46, rfl, rfl, by decide, zu_9, rfl, (Or.inl (zTb_mem (zm_7 (List.mem_of_getElem? (i := 228) (by decide +kernel))) rfl)), nmX9, tyX9_ok⟩
theorem fdX9_97 : zFd RX9 97 9 42 := ⟨RX9, TX9, 46, rfl, rfl, by decide, zu_9, rfl, (Or.inl (zTb_mem (zm_7 (List.mem_of_getElem? (i := 229) (by decide +kernel))) rfl)), nmX9, tyX9_ok⟩
theorem fdX9_100 : zFd RX9 100 9 43 := ⟨RX9, TX9, 46, rfl, rfl, by decide, zu_9, rfl, (Or.inl (zTb_mem (zm_7 (List.mem_of_getElem? (i := 230) (by decide +kernel))) rfl)), nmX9, tyX9_ok⟩
theorem fdX9_103 : zFd RX9 103 9 44 := ⟨RX9, TX9, 46, rfl, rfl, by decide, zu_9, rfl, (Or.inl (zTb_mem (zm_7 (List.mem_of_getElem? (i := 231) (by decide +kernel))) rfl)), nmX9, tyX9_ok⟩
theorem fdX9_106 : zFd RX9 106 9 0 := ⟨RX9, TX9, 46, rfl, rfl, by decide, zu_9, rfl, (Or.inl (zTb_mem (zm_7 (List.mem_of_getElem? (i := 187) (by decide +kernel))) rfl)), nmX9, tyX9_ok⟩
theorem fdX9_109 : zFd RX9 109 9 1 := ⟨RX9, TX9, 46, rfl, rfl, by decide, zu_9, rfl, (Or.inl (zTb_mem (zm_7 (List.mem_of_getElem? (i := 188) (by decide +kernel))) rfl)), nmX9, tyX9_ok⟩
theorem fdX9_112 : zFd RX9 112 9 2 := ⟨RX9, TX9, 46, rfl, rfl, by decide, zu_9, rfl, (Or.inl (zTb_mem (zm_7 (List.mem_of_getElem? (i := 189) (by decide +kernel))) rfl)), nmX9, tyX9_ok⟩
theorem fdX9_115 : zFd RX9 115 9 4 := ⟨RX9, TX9, 46, rfl, rfl, by decide, zu_9, rfl, (Or.inl (zTb_mem (zm_7 (List.mem_of_getElem? (i := 191) (by decide +kernel))) rfl)), nmX9, tyX9_ok⟩
theorem fdX9_122 : zFd RX9 122 9 5 := ⟨RX9, TX9, 46, rfl, rfl, by decide, zu_9, rfl, (Or.inl (zTb_mem (zm_7 (List.mem_of_getElem? (i := 192) (by decide +kernel))) rfl)), nmX9, tyX9_ok⟩
theorem fdX9_125 : zFd RX9 125 9 6 := ⟨RX9, TX9, 46, rfl, rfl, by decide, zu_9, rfl, (Or.inl (zTb_mem (zm_7 (List.mem_of_getElem? (i := 193) (by decide +kernel))) rfl)), nmX9, tyX9_ok⟩
theorem fdX9_167 : zFd RX9 167 9 7 := ⟨RX9, TX9, 46, rfl, rfl, by decide, zu_9, rfl, (Or.inl (zTb_mem (zm_7 (List.mem_of_getElem? (i := 194) (by decide +kernel))) rfl)), nmX9, tyX9_ok⟩
theorem fdX9_198 : zFd RX9 198 9 20 := ⟨RX9, TX9, 46, rfl, rfl, by decide, zu_9, rfl, (Or.inl (zTb_mem (zm_7 (List.mem_of_getElem? (i := 207) (by decide +kernel))) rfl)), nmX9, tyX9_ok⟩
theorem fdX9_201 : zFd RX9 201 9 21 := ⟨RX9, TX9, 46, rfl, rfl, by decide, zu_9, rfl, (Or.inl (zTb_mem (zm_7 (List.mem_of_getElem? (i := 208) (by decide +kernel))) rfl)), nmX9, tyX9_ok⟩
theorem fdX9_204 : zFd RX9 204 9 22 := ⟨RX9, TX9, 46, rfl, rfl, by decide, zu_9, rfl, (Or.inl (zTb_mem (zm_7 (List.mem_of_getElem? (i := 209) (by decide +kernel))) rfl)), nmX9, tyX9_ok⟩
theorem fdX9_252 : zFd RX9 252 9 29 := ⟨RX9, TX9, 46, rfl, rfl, by decide, zu_9, rfl, (Or.inl (zTb_mem (zm_7 (List.mem_of_getElem? (i := 216) (by decide +kernel))) rfl)), nmX9, tyX9_ok⟩
theorem fdX9_263 : zFd RX9 263 9 34 := ⟨RX9, TX9, 46, rfl, rfl, by decide, zu_9, rfl, (Or.inl (zTb_mem (zm_7 (List.mem_of_getElem? (i := 221) (by decide +kernel))) rfl)), nmX9, tyX9_ok⟩
theorem fdX9_266 : zFd RX9 266 9 35 := ⟨RX9, TX9, 46, rfl, rfl, by decide, zu_9, rfl, (Or.inl (zTb_mem (zm_7 (List.mem_of_getElem? (i := 222) (by decide +kernel))) rfl)), nmX9, tyX9_ok⟩
theorem fdX9_305 : zFd RX9 305 9 31 := ⟨RX9, TX9, 46, rfl, rfl, by decide, zu_9, rfl, (Or.inl (zTb_mem (zm_7 (List.mem_of_getElem? (i := 218) (by decide +kernel))) rfl)), nmX9, tyX9_ok⟩
theorem fdX9_308 : zFd RX9 308 9 45 := ⟨RX9, TX9, 46, rfl, rfl, by decide, zu_9, rfl, (Or.inl (zTb_mem (zm_7 (List.mem_of_getElem? (i := 232) (by decide +kernel))) rfl)), nmX9, tyX9_ok⟩
theorem fdX9_322 : zFd RX9 322 9 40 := ⟨RX9, TX9, 46, rfl, rfl, by decide, zu_9, rfl, (Or.inl (zTb_mem (zm_7 (List.mem_of_getElem? (i := 227) (by decide +kernel))) rfl)), nmX9, tyX9_ok⟩
theorem zc_J1_charAt_3b067 : Cond.code yJ1_charAt_3b067 cJ1_charAt_3b067 2 (some .char) ∈ zTb := (zTb_mem (zm_4 (List.mem_of_getElem? (i := 156) (by decide +kernel))) rfl)
theorem zi_J1_charAt_3b067 : Cond.initialized yJ1_charAt_3b067.cls ∈ zTb := (zTb_mem (zm_1 (List.mem_of_getElem? (i := 17) (by decide +kernel))) rfl)
theorem zs_J1_charAt_3b067 : Cond.static yJ1_charAt_3b067 ∈ zTb := (zTb_mem (zm_4 (List.mem_of_getElem? (i := 155) (by decide +kernel))) rfl)
theorem zd_J1_charAt_3b067 : yJ1_charAt_3b067.cls ≠ "java/lang/invoke/MethodHandle" ∧ yJ1_charAt_3b067.cls ≠ "java/lang/invoke/VarHandle" ∧ (parseMethodDescriptor yJ1_charAt_3b067.desc).map (fun d => d.parameters.length) = some 2 := by decide +kernel
theorem klJ0_495 : Cond.methodLink RJ0 495 yJ1_charAt_3b067 ∈ zTb := (zTb_mem (zm_4 (List.mem_of_getElem? (i := 154) (by decide +kernel))) rfl)
theorem ksJ0_495 : zCs RJ0 495 yJ1_charAt_3b067 cJ1_charAt_3b067 2 (some .char) 2 := ⟨⟨zc_J1_charAt_3b067, zi_J1_charAt_3b067, by decide, zd_J1_charAt_3b067, (Or.inl klJ0_495)⟩, zs_J1_charAt_3b067⟩
theorem zc_J0_checkIndex_df160 : Cond.code yJ0_checkIndex_df160 cJ0_checkIndex_df160 2 (none) ∈ zTb := (zTb_mem (zm_4 (List.mem_of_getElem? (i := 159) (by decide +kernel))) rfl)
theorem zi_J0_checkIndex_df160 : Cond.initialized yJ0_checkIndex_df160.cls ∈ zTb := (zTb_mem (zm_1 (List.mem_of_getElem? (i := 16) (by decide +kernel))) rfl)
theorem zs_J0_checkIndex_df160 : Cond.static yJ0_checkIndex_df160 ∈ zTb := (zTb_mem (zm_4 (List.mem_of_getElem? (i := 158) (by decide +kernel))) rfl)
theorem zd_J0_checkIndex_df160 : yJ0_checkIndex_df160.cls ≠ "java/lang/invoke/MethodHandle" ∧ yJ0_checkIndex_df160.cls ≠ "java/lang/invoke/VarHandle" ∧ (parseMethodDescriptor yJ0_checkIndex_df160.desc).map (fun d => d.parameters.length) = some 2 := by decide +kernel
theorem klJ1_9 : Cond.methodLink RJ1 9 yJ0_checkIndex_df160 ∈ zTb := (zTb_mem (zm_4 (List.mem_of_getElem? (i := 157) (by decide +kernel))) rfl)
theorem ksJ1_9 : zCs RJ1 9 yJ0_checkIndex_df160 cJ0_checkIndex_df160 2 (none) 2 := ⟨⟨zc_J0_checkIndex_df160, zi_J0_checkIndex_df160, by decide, zd_J0_checkIndex_df160, (Or.inl klJ1_9)⟩, zs_J0_checkIndex_df160⟩
theorem zc_J7_rangeCheck_23922 : Cond.code yJ7_rangeCheck_23922 cJ7_rangeCheck_23922 3 (none) ∈ zTb := (zTb_mem (zm_2 (List.mem_of_getElem? (i := 186) (by decide +kernel))) rfl)
theorem zi_J7_rangeCheck_23922 : Cond.initialized yJ7_rangeCheck_23922.cls ∈ zTb := (zTb_mem (zm_1 (List.mem_of_getElem? (i := 15) (by decide +kernel))) rfl)
theorem zs_J7_rangeCheck_23922 : Cond.static yJ7_rangeCheck_23922 ∈ zTb := (zTb_mem (zm_2 (List.mem_of_getElem? (i := 185) (by decide +kernel))) rfl)
theorem zd_J7_rangeCheck_23922 : yJ7_rangeCheck_23922.cls ≠ "java/lang/invoke/MethodHandle" ∧ yJ7_rangeCheck_23922.cls ≠ "java/lang/invoke/VarHandle" ∧ (parseMethodDescriptor yJ7_rangeCheck_23922.desc).map (fun d => d.parameters.length) = some 3 := by decide +kernel
theorem klJ7_13 : Cond.methodLink RJ7 13 yJ7_rangeCheck_23922 ∈ zTb := (zTb_mem (zm_2 (List.mem_of_getElem? (i := 184) (by decide +kernel))) rfl)
theorem ksJ7_13 : zCs RJ7 13 yJ7_rangeCheck_23922 cJ7_rangeCheck_23922 3 (none) 3 := ⟨⟨zc_J7_rangeCheck_23922, zi_J7_rangeCheck_23922, by decide, zd_J7_rangeCheck_23922, (Or.inl klJ7_13)⟩, zs_J7_rangeCheck_23922⟩
theorem zc_X5_rivalsOf : Cond.code yX5_rivalsOf cX5_rivalsOf 7 (some .int) ∈ zTb := (zTb_mem (zm_6 (List.mem_of_getElem? (i := 75) (by decide +kernel))) rfl)
theorem zi_X5_rivalsOf : Cond.initialized yX5_rivalsOf.cls ∈ zTb := (zTb_mem (zm_1 (List.mem_of_getElem? (i := 4) (by decide +kernel))) rfl)
theorem zx_X5_rivalsOf : Cond.instanceMethod yX5_rivalsOf ∈ zTb := (zTb_mem (zm_6 (List.mem_of_getElem? (i := 74) (by decide +kernel))) rfl)
theorem zv_X5_rivalsOf : Cond.selects yX5_rivalsOf.cls yX5_rivalsOf yX5_rivalsOf ∈ zTb := zp_4 (List.mem_of_getElem? (i := 12) rfl)
theorem zd_X5_rivalsOf : yX5_rivalsOf.cls ≠ "java/lang/invoke/MethodHandle" ∧ yX5_rivalsOf.cls ≠ "java/lang/invoke/VarHandle" ∧ (parseMethodDescriptor yX5_rivalsOf.desc).map (fun d => d.parameters.length) = some 3 := by decide +kernel
theorem kvX0_29 : zCv RX0 29 yX5_rivalsOf cX5_rivalsOf 7 (some .int) 3 5 := ⟨⟨zc_X5_rivalsOf, zi_X5_rivalsOf, by decide, zd_X5_rivalsOf, (Or.inr ⟨"TwoHandles", (List.mem_filter.mpr ⟨zm_7 (List.mem_of_getElem? (i := 66) (by decide +kernel)), rfl⟩)⟩)⟩, zx_X5_rivalsOf, zv_X5_rivalsOf, rfl⟩
theorem zc_J6_bitCount_0f7a4 : Cond.code yJ6_bitCount_0f7a4 cJ6_bitCount_0f7a4 1 (some .int) ∈ zTb := (zTb_mem (zm_4 (List.mem_of_getElem? (i := 103) (by decide +kernel))) rfl)
theorem zi_J6_bitCount_0f7a4 : Cond.initialized yJ6_bitCount_0f7a4.cls ∈ zTb := (zTb_mem (zm_1 (List.mem_of_getElem? (i := 22) (by decide +kernel))) rfl)
theorem zs_J6_bitCount_0f7a4 : Cond.static yJ6_bitCount_0f7a4 ∈ zTb := (zTb_mem (zm_4 (List.mem_of_getElem? (i := 102) (by decide +kernel))) rfl)
theorem zd_J6_bitCount_0f7a4 : yJ6_bitCount_0f7a4.cls ≠ "java/lang/invoke/MethodHandle" ∧ yJ6_bitCount_0f7a4.cls ≠ "java/lang/invoke/VarHandle" ∧ (parseMethodDescriptor yJ6_bitCount_0f7a4.desc).map (fun d => d.parameters.length) = some 1 := by decide +kernel
theorem klX0_35 : Cond.methodLink RX0 35 yJ6_bitCount_0f7a4 ∈ zTb := (zTb_mem (zm_7 (List.mem_of_getElem? (i := 71) (by decide +kernel))) rfl)
theorem ksX0_35 : zCs RX0 35 yJ6_bitCount_0f7a4 cJ6_bitCount_0f7a4 1 (some .int) 1 := ⟨⟨zc_J6_bitCount_0f7a4, zi_J6_bitCount_0f7a4, by decide, zd_J6_bitCount_0f7a4, (Or.inl klX0_35)⟩, zs_J6_bitCount_0f7a4⟩
theorem zc_X0_areRivals : Cond.code yX0_areRivals cX0_areRivals 3 (some .boolean) ∈ zTb := (zTb_mem (zm_7 (List.mem_of_getElem? (i := 79) (by decide +kernel))) rfl)
theorem zi_X0_areRivals : Cond.initialized yX0_areRivals.cls ∈ zTb := (zTb_mem (zm_1 (List.mem_of_getElem? (i := 6) (by decide +kernel))) rfl)
theorem zx_X0_areRivals : Cond.instanceMethod yX0_areRivals ∈ zTb := (zTb_mem (zm_7 (List.mem_of_getElem? (i := 78) (by decide +kernel))) rfl)
theorem zv_X0_areRivals : Cond.selects yX0_areRivals.cls yX0_areRivals yX0_areRivals ∈ zTb := zp_6 (List.mem_of_getElem? (i := 12) rfl)
theorem zd_X0_areRivals : yX0_areRivals.cls ≠ "java/lang/invoke/MethodHandle" ∧ yX0_areRivals.cls ≠ "java/lang/invoke/VarHandle" ∧ (parseMethodDescriptor yX0_areRivals.desc).map (fun d => d.parameters.length) = some 2 := by decide +kernel
theorem klX0_41 : Cond.methodLink RX0 41 yX0_areRivals ∈ zTb := (zTb_mem (zm_7 (List.mem_of_getElem? (i := 76) (by decide +kernel))) rfl)
theorem kvX0_41 : zCv RX0 41 yX0_areRivals cX0_areRivals 3 (some .boolean) 2 0 := ⟨⟨zc_X0_areRivals, zi_X0_areRivals, by decide, zd_X0_areRivals, (Or.inl klX0_41)⟩, zx_X0_areRivals, zv_X0_areRivals, rfl⟩
theorem zc_J6_numberOfTrailingZeros_0f7a4 : Cond.code yJ6_numberOfTrailingZeros_0f7a4 cJ6_numberOfTrailingZeros_0f7a4 2 (some .int) ∈ zTb := (zTb_mem (zm_6 (List.mem_of_getElem? (i := 19) (by decide +kernel))) rfl)
theorem zi_J6_numberOfTrailingZeros_0f7a4 : Cond.initialized yJ6_numberOfTrailingZeros_0f7a4.cls ∈ zTb := (zTb_mem (zm_1 (List.mem_of_getElem? (i := 22) (by decide +kernel))) rfl)
theorem zs_J6_numberOfTrailingZeros_0f7a4 : Cond.static yJ6_numberOfTrailingZeros_0f7a4 ∈ zTb := (zTb_mem (zm_6 (List.mem_of_getElem? (i := 18) (by decide +kernel))) rfl)
theorem zd_J6_numberOfTrailingZeros_0f7a4 : yJ6_numberOfTrailingZeros_0f7a4.cls ≠ "java/lang/invoke/MethodHandle" ∧ yJ6_numberOfTrailingZeros_0f7a4.cls ≠ "java/lang/invoke/VarHandle" ∧ (parseMethodDescriptor yJ6_numberOfTrailingZeros_0f7a4.desc).map (fun d => d.parameters.length) = some 1 := by decide +kernel
theorem klX0_45 : Cond.methodLink RX0 45 yJ6_numberOfTrailingZeros_0f7a4 ∈ zTb := (zTb_mem (zm_7 (List.mem_of_getElem? (i := 111) (by decide +kernel))) rfl)
theorem ksX0_45 : zCs RX0 45 yJ6_numberOfTrailingZeros_0f7a4 cJ6_numberOfTrailingZeros_0f7a4 2 (some .int) 1 := ⟨⟨zc_J6_numberOfTrailingZeros_0f7a4, zi_J6_numberOfTrailingZeros_0f7a4, by decide, zd_J6_numberOfTrailingZeros_0f7a4, (Or.inl klX0_45)⟩, zs_J6_numberOfTrailingZeros_0f7a4⟩
theorem zc_X0_isCalm : Cond.code yX0_isCalm cX0_isCalm 3 (some .boolean) ∈ zTb := (zTb_mem (zm_7 (List.mem_of_getElem? (i := 127) (by decide +kernel))) rfl)
theorem zi_X0_isCalm : Cond.initialized yX0_isCalm.cls ∈ zTb := (zTb_mem (zm_1 (List.mem_of_getElem? (i := 6) (by decide +kernel))) rfl)
theorem zx_X0_isCalm : Cond.instanceMethod yX0_isCalm ∈ zTb := (zTb_mem (zm_7 (List.mem_of_getElem? (i := 126) (by decide +kernel))) rfl)
theorem zv_X0_isCalm : Cond.selects yX0_isCalm.cls yX0_isCalm yX0_isCalm ∈ zTb := zp_7 (List.mem_of_getElem? (i := 0) rfl)
theorem zd_X0_isCalm : yX0_isCalm.cls ≠ "java/lang/invoke/MethodHandle" ∧ yX0_isCalm.cls ≠ "java/lang/invoke/VarHandle" ∧ (parseMethodDescriptor yX0_isCalm.desc).map (fun d => d.parameters.length) = some 1 := by decide +kernel
theorem klX0_54 : Cond.methodLink RX0 54 yX0_isCalm ∈ zTb := (zTb_mem (zm_7 (List.mem_of_getElem? (i := 124) (by decide +kernel))) rfl)
theorem kvX0_54 : zCv RX0 54 yX0_isCalm cX0_isCalm 3 (some .boolean) 1 0 := ⟨⟨zc_X0_isCalm, zi_X0_isCalm, by decide, zd_X0_isCalm, (Or.inl klX0_54)⟩, zx_X0_isCalm, zv_X0_isCalm, rfl⟩
theorem zc_X5_thought : Cond.code yX5_thought cX5_thought 3 (some .int) ∈ zTb := (zTb_mem (zm_5 (List.mem_of_getElem? (i := 65) (by decide +kernel))) rfl)
theorem zi_X5_thought : Cond.initialized yX5_thought.cls ∈ zTb := (zTb_mem (zm_1 (List.mem_of_getElem? (i := 4) (by decide +kernel))) rfl)
theorem zx_X5_thought : Cond.instanceMethod yX5_thought ∈ zTb := (zTb_mem (zm_5 (List.mem_of_getElem? (i := 64) (by decide +kernel))) rfl)
theorem zv_X5_thought : Cond.selects yX5_thought.cls yX5_thought yX5_thought ∈ zTb := zp_3 (List.mem_of_getElem? (i := 11) rfl)
theorem zd_X5_thought : yX5_thought.cls ≠ "java/lang/invoke/MethodHandle" ∧ yX5_thought.cls ≠ "java/lang/invoke/VarHandle" ∧ (parseMethodDescriptor yX5_thought.desc).map (fun d => d.parameters.length) = some 2 := by decide +kernel
theorem kvX1_58 : zCv RX1 58 yX5_thought cX5_thought 3 (some .int) 2 5 := ⟨⟨zc_X5_thought, zi_X5_thought, by decide, zd_X5_thought, (Or.inr ⟨"TwoHandles", (List.mem_filter.mpr ⟨zm_7 (List.mem_of_getElem? (i := 17) (by decide +kernel)), rfl⟩)⟩)⟩, zx_X5_thought, zv_X5_thought, rfl⟩
theorem zc_X1_findAll : Cond.code yX1_findAll cX1_findAll 6 (none) ∈ zTb := (zTb_mem (zm_7 (List.mem_of_getElem? (i := 21) (by decide +kernel))) rfl)
theorem zi_X1_findAll : Cond.initialized yX1_findAll.cls ∈ zTb := (zTb_mem (zm_1 (List.mem_of_getElem? (i := 30) (by decide +kernel))) rfl)
theorem zx_X1_findAll : Cond.instanceMethod yX1_findAll ∈ zTb := (zTb_mem (zm_7 (List.mem_of_getElem? (i := 20) (by decide +kernel))) rfl)
theorem zv_X1_findAll : Cond.selects yX1_findAll.cls yX1_findAll yX1_findAll ∈ zTb := zp_6 (List.mem_of_getElem? (i := 2) rfl)
theorem zd_X1_findAll : yX1_findAll.cls ≠ "java/lang/invoke/MethodHandle" ∧ yX1_findAll.cls ≠ "java/lang/invoke/VarHandle" ∧ (parseMethodDescriptor yX1_findAll.desc).map (fun d => d.parameters.length) = some 1 := by decide +kernel
theorem klX1_61 : Cond.methodLink RX1 61 yX1_findAll ∈ zTb := (zTb_mem (zm_7 (List.mem_of_getElem? (i := 18) (by decide +kernel))) rfl)
theorem kvX1_61 : zCv RX1 61 yX1_findAll cX1_findAll 6 (none) 1 1 := ⟨⟨zc_X1_findAll, zi_X1_findAll, by decide, zd_X1_findAll, (Or.inl klX1_61)⟩, zx_X1_findAll, zv_X1_findAll, rfl⟩
theorem zc_J7_fill_53178 : Cond.code yJ7_fill_53178 cJ7_fill_53178 4 (none) ∈ zTb := (zTb_mem (zm_2 (List.mem_of_getElem? (i := 180) (by decide +kernel))) rfl)
theorem zi_J7_fill_53178 : Cond.initialized yJ7_fill_53178.cls ∈ zTb := (zTb_mem (zm_1 (List.mem_of_getElem? (i := 15) (by decide +kernel))) rfl)
theorem zs_J7_fill_53178 : Cond.static yJ7_fill_53178 ∈ zTb := (zTb_mem (zm_2 (List.mem_of_getElem? (i := 179) (by decide +kernel))) rfl)
theorem zd_J7_fill_53178 : yJ7_fill_53178.cls ≠ "java/lang/invoke/MethodHandle" ∧ yJ7_fill_53178.cls ≠ "java/lang/invoke/VarHandle" ∧ (parseMethodDescriptor yJ7_fill_53178.desc).map (fun d => d.parameters.length) = some 2 := by decide +kernel
theorem klX1_65 : Cond.methodLink RX1 65 yJ7_fill_53178 ∈ zTb := (zTb_mem (zm_7 (List.mem_of_getElem? (i := 22) (by decide +kernel))) rfl)
theorem ksX1_65 : zCs RX1 65 yJ7_fill_53178 cJ7_fill_53178 4 (none) 2 := ⟨⟨zc_J7_fill_53178, zi_J7_fill_53178, by decide, zd_J7_fill_53178, (Or.inl klX1_65)⟩, zs_J7_fill_53178⟩
theorem zc_X1_unfold : Cond.code yX1_unfold cX1_unfold 4 (none) ∈ zTb := (zTb_mem (zm_7 (List.mem_of_getElem? (i := 26) (by decide +kernel))) rfl)
theorem zi_X1_unfold : Cond.initialized yX1_unfold.cls ∈ zTb := (zTb_mem (zm_1 (List.mem_of_getElem? (i := 30) (by decide +kernel))) rfl)
theorem zx_X1_unfold : Cond.instanceMethod yX1_unfold ∈ zTb := (zTb_mem (zm_7 (List.mem_of_getElem? (i := 25) (by decide +kernel))) rfl)
theorem zv_X1_unfold : Cond.selects yX1_unfold.cls yX1_unfold yX1_unfold ∈ zTb := zp_6 (List.mem_of_getElem? (i := 3) rfl)
theorem zd_X1_unfold : yX1_unfold.cls ≠ "java/lang/invoke/MethodHandle" ∧ yX1_unfold.cls ≠ "java/lang/invoke/VarHandle" ∧ (parseMethodDescriptor yX1_unfold.desc).map (fun d => d.parameters.length) = some 1 := by decide +kernel
theorem klX1_71 : Cond.methodLink RX1 71 yX1_unfold ∈ zTb := (zTb_mem (zm_7 (List.mem_of_getElem? (i := 23) (by decide +kernel))) rfl)
theorem kvX1_71 : zCv RX1 71 yX1_unfold cX1_unfold 4 (none) 1 1 := ⟨⟨zc_X1_unfold, zi_X1_unfold, by decide, zd_X1_unfold, (Or.inl klX1_71)⟩, zx_X1_unfold, zv_X1_unfold, rfl⟩
theorem zc_X1_canWork : Cond.code yX1_canWork cX1_canWork 3 (some .boolean) ∈ zTb := (zTb_mem (zm_7 (List.mem_of_getElem? (i := 30) (by decide +kernel))) rfl)
theorem zi_X1_canWork : Cond.initialized yX1_canWork.cls ∈ zTb := (zTb_mem (zm_1 (List.mem_of_getElem? (i := 30) (by decide +kernel))) rfl)
theorem zx_X1_canWork : Cond.instanceMethod yX1_canWork ∈ zTb := (zTb_mem (zm_7 (List.mem_of_getElem? (i := 29) (by decide +kernel))) rfl)
theorem zv_X1_canWork : Cond.selects yX1_canWork.cls yX1_canWork yX1_canWork ∈ zTb := zp_6 (List.mem_of_getElem? (i := 4) rfl)
theorem zd_X1_canWork : yX1_canWork.cls ≠ "java/lang/invoke/MethodHandle" ∧ yX1_canWork.cls ≠ "java/lang/invoke/VarHandle" ∧ (parseMethodDescriptor yX1_canWork.desc).map (fun d => d.parameters.length) = some 2 := by decide +kernel
theorem klX1_74 : Cond.methodLink RX1 74 yX1_canWork ∈ zTb := (zTb_mem (zm_7 (List.mem_of_getElem? (i := 27) (by decide +kernel))) rfl)
theorem kvX1_74 : zCv RX1 74 yX1_canWork cX1_canWork 3 (some .boolean) 2 1 := ⟨⟨zc_X1_canWork, zi_X1_canWork, by decide, zd_X1_canWork, (Or.inl klX1_74)⟩, zx_X1_canWork, zv_X1_canWork, rfl⟩
theorem zc_X1_stateBehind : Cond.code yX1_stateBehind cX1_stateBehind 10 (some .int) ∈ zTb := (zTb_mem (zm_7 (List.mem_of_getElem? (i := 36) (by decide +kernel))) rfl)
theorem zi_X1_stateBehind : Cond.initialized yX1_stateBehind.cls ∈ zTb := (zTb_mem (zm_1 (List.mem_of_getElem? (i := 30) (by decide +kernel))) rfl)
theorem zx_X1_stateBehind : Cond.instanceMethod yX1_stateBehind ∈ zTb := (zTb_mem (zm_7 (List.mem_of_getElem? (i := 35) (by decide +kernel))) rfl)
theorem zv_X1_stateBehind : Cond.selects yX1_stateBehind.cls yX1_stateBehind yX1_stateBehind ∈ zTb := zp_6 (List.mem_of_getElem? (i := 5) rfl)
theorem zd_X1_stateBehind : yX1_stateBehind.cls ≠ "java/lang/invoke/MethodHandle" ∧ yX1_stateBehind.cls ≠ "java/lang/invoke/VarHandle" ∧ (parseMethodDescriptor yX1_stateBehind.desc).map (fun d => d.parameters.length) = some 3 := by decide +kernel
theorem klX1_78 : Cond.methodLink RX1 78 yX1_stateBehind ∈ zTb := (zTb_mem (zm_7 (List.mem_of_getElem? (i := 33) (by decide +kernel))) rfl)
theorem kvX1_78 : zCv RX1 78 yX1_stateBehind cX1_stateBehind 10 (some .int) 3 1 := ⟨⟨zc_X1_stateBehind, zi_X1_stateBehind, by decide, zd_X1_stateBehind, (Or.inl klX1_78)⟩, zx_X1_stateBehind, zv_X1_stateBehind, rfl⟩
theorem zc_X1_comeTo : Cond.code yX1_comeTo cX1_comeTo 3 (none) ∈ zTb := (zTb_mem (zm_7 (List.mem_of_getElem? (i := 45) (by decide +kernel))) rfl)
theorem zi_X1_comeTo : Cond.initialized yX1_comeTo.cls ∈ zTb := (zTb_mem (zm_1 (List.mem_of_getElem? (i := 30) (by decide +kernel))) rfl)
theorem zx_X1_comeTo : Cond.instanceMethod yX1_comeTo ∈ zTb := (zTb_mem (zm_7 (List.mem_of_getElem? (i := 44) (by decide +kernel))) rfl)
theorem zv_X1_comeTo : Cond.selects yX1_comeTo.cls yX1_comeTo yX1_comeTo ∈ zTb := zp_6 (List.mem_of_getElem? (i := 6) rfl)
theorem zd_X1_comeTo : yX1_comeTo.cls ≠ "java/lang/invoke/MethodHandle" ∧ yX1_comeTo.cls ≠ "java/lang/invoke/VarHandle" ∧ (parseMethodDescriptor yX1_comeTo.desc).map (fun d => d.parameters.length) = some 2 := by decide +kernel
theorem klX1_82 : Cond.methodLink RX1 82 yX1_comeTo ∈ zTb := (zTb_mem (zm_7 (List.mem_of_getElem? (i := 42) (by decide +kernel))) rfl)
theorem kvX1_82 : zCv RX1 82 yX1_comeTo cX1_comeTo 3 (none) 2 1 := ⟨⟨zc_X1_comeTo, zi_X1_comeTo, by decide, zd_X1_comeTo, (Or.inl klX1_82)⟩, zx_X1_comeTo, zv_X1_comeTo, rfl⟩
theorem zc_X1_isReadyBehind : Cond.code yX1_isReadyBehind cX1_isReadyBehind 4 (some .boolean) ∈ zTb := (zTb_mem (zm_7 (List.mem_of_getElem? (i := 54) (by decide +kernel))) rfl)
theorem zi_X1_isReadyBehind : Cond.initialized yX1_isReadyBehind.cls ∈ zTb := (zTb_mem (zm_1 (List.mem_of_getElem? (i := 30) (by decide +kernel))) rfl)
theorem zx_X1_isReadyBehind : Cond.instanceMethod yX1_isReadyBehind ∈ zTb := (zTb_mem (zm_7 (List.mem_of_getElem? (i := 53) (by decide +kernel))) rfl)
theorem zv_X1_isReadyBehind : Cond.selects yX1_isReadyBehind.cls yX1_isReadyBehind yX1_isReadyBehind ∈ zTb := zp_6 (List.mem_of_getElem? (i := 8) rfl)
theorem zd_X1_isReadyBehind : yX1_isReadyBehind.cls ≠ "java/lang/invoke/MethodHandle" ∧ yX1_isReadyBehind.cls ≠ "java/lang/invoke/VarHandle" ∧ (parseMethodDescriptor yX1_isReadyBehind.desc).map (fun d => d.parameters.length) = some 3 := by decide +kernel
theorem klX1_91 : Cond.methodLink RX1 91 yX1_isReadyBehind ∈ zTb := (zTb_mem (zm_7 (List.mem_of_getElem? (i := 51) (by decide +kernel))) rfl)
theorem kvX1_91 : zCv RX1 91 yX1_isReadyBehind cX1_isReadyBehind 4 (some .boolean) 3 1 := ⟨⟨zc_X1_isReadyBehind, zi_X1_isReadyBehind, by decide, zd_X1_isReadyBehind, (Or.inl klX1_91)⟩, zx_X1_isReadyBehind, zv_X1_isReadyBehind, rfl⟩
theorem zc_X7_areKin : Cond.code yX7_areKin cX7_areKin 3 (some .boolean) ∈ zTb := (zTb_mem (zm_4 (List.mem_of_getElem? (i := 61) (by decide +kernel))) rfl)
theorem zi_X7_areKin : Cond.initialized yX7_areKin.cls ∈ zTb := (zTb_mem (zm_1 (List.mem_of_getElem? (i := 2) (by decide +kernel))) rfl)
theorem zx_X7_areKin : Cond.instanceMethod yX7_areKin ∈ zTb := (zTb_mem (zm_4 (List.mem_of_getElem? (i := 60) (by decide +kernel))) rfl)
theorem zv_X7_areKin : Cond.selects yX7_areKin.cls yX7_areKin yX7_areKin ∈ zTb := zp_1 (List.mem_of_getElem? (i := 9) rfl)
theorem zd_X7_areKin : yX7_areKin.cls ≠ "java/lang/invoke/MethodHandle" ∧ yX7_areKin.cls ≠ "java/lang/invoke/VarHandle" ∧ (parseMethodDescriptor yX7_areKin.desc).map (fun d => d.parameters.length) = some 2 := by decide +kernel
theorem kvX1_95 : zCv RX1 95 yX7_areKin cX7_areKin 3 (some .boolean) 2 7 := ⟨⟨zc_X7_areKin, zi_X7_areKin, by decide, zd_X7_areKin, (Or.inr ⟨"TwoHandles", (List.mem_filter.mpr ⟨zm_7 (List.mem_of_getElem? (i := 31) (by decide +kernel)), rfl⟩)⟩)⟩, zx_X7_areKin, zv_X7_areKin, rfl⟩
theorem zc_X8_lesserBehind : Cond.code yX8_lesserBehind cX8_lesserBehind 6 (some .int) ∈ zTb := (zTb_mem (zm_5 (List.mem_of_getElem? (i := 127) (by decide +kernel))) rfl)
theorem zi_X8_lesserBehind : Cond.initialized yX8_lesserBehind.cls ∈ zTb := (zTb_mem (zm_1 (List.mem_of_getElem? (i := 1) (by decide +kernel))) rfl)
theorem zs_X8_lesserBehind : Cond.static yX8_lesserBehind ∈ zTb := (zTb_mem (zm_5 (List.mem_of_getElem? (i := 126) (by decide +kernel))) rfl)
theorem zd_X8_lesserBehind : yX8_lesserBehind.cls ≠ "java/lang/invoke/MethodHandle" ∧ yX8_lesserBehind.cls ≠ "java/lang/invoke/VarHandle" ∧ (parseMethodDescriptor yX8_lesserBehind.desc).map (fun d => d.parameters.length) = some 4 := by decide +kernel
theorem ksX1_102 : zCs RX1 102 yX8_lesserBehind cX8_lesserBehind 6 (some .int) 4 := ⟨⟨zc_X8_lesserBehind, zi_X8_lesserBehind, by decide, zd_X8_lesserBehind, (Or.inr ⟨"TwoHandles", (List.mem_filter.mpr ⟨zm_7 (List.mem_of_getElem? (i := 37) (by decide +kernel)), rfl⟩)⟩)⟩, zs_X8_lesserBehind⟩
theorem zc_X8_greaterBehind : Cond.code yX8_greaterBehind cX8_greaterBehind 4 (some .int) ∈ zTb := (zTb_mem (zm_5 (List.mem_of_getElem? (i := 134) (by decide +kernel))) rfl)
theorem zi_X8_greaterBehind : Cond.initialized yX8_greaterBehind.cls ∈ zTb := (zTb_mem (zm_1 (List.mem_of_getElem? (i := 1) (by decide +kernel))) rfl)
theorem zs_X8_greaterBehind : Cond.static yX8_greaterBehind ∈ zTb := (zTb_mem (zm_5 (List.mem_of_getElem? (i := 133) (by decide +kernel))) rfl)
theorem zd_X8_greaterBehind : yX8_greaterBehind.cls ≠ "java/lang/invoke/MethodHandle" ∧ yX8_greaterBehind.cls ≠ "java/lang/invoke/VarHandle" ∧ (parseMethodDescriptor yX8_greaterBehind.desc).map (fun d => d.parameters.length) = some 4 := by decide +kernel
theorem ksX1_106 : zCs RX1 106 yX8_greaterBehind cX8_greaterBehind 4 (some .int) 4 := ⟨⟨zc_X8_greaterBehind, zi_X8_greaterBehind, by decide, zd_X8_greaterBehind, (Or.inr ⟨"TwoHandles", (List.mem_filter.mpr ⟨zm_7 (List.mem_of_getElem? (i := 38) (by decide +kernel)), rfl⟩)⟩)⟩, zs_X8_greaterBehind⟩
theorem zc_X1_weight : Cond.code yX1_weight cX1_weight 3 (some .int) ∈ zTb := (zTb_mem (zm_7 (List.mem_of_getElem? (i := 41) (by decide +kernel))) rfl)
theorem zi_X1_weight : Cond.initialized yX1_weight.cls ∈ zTb := (zTb_mem (zm_1 (List.mem_of_getElem? (i := 30) (by decide +kernel))) rfl)
theorem zs_X1_weight : Cond.static yX1_weight ∈ zTb := (zTb_mem (zm_7 (List.mem_of_getElem? (i := 40) (by decide +kernel))) rfl)
theorem zd_X1_weight : yX1_weight.cls ≠ "java/lang/invoke/MethodHandle" ∧ yX1_weight.cls ≠ "java/lang/invoke/VarHandle" ∧ (parseMethodDescriptor yX1_weight.desc).map (fun d => d.parameters.length) = some 1 := by decide +kernel
theorem klX1_109 : Cond.methodLink RX1 109 yX1_weight ∈ zTb := (zTb_mem (zm_7 (List.mem_of_getElem? (i := 39) (by decide +kernel))) rfl)
theorem ksX1_109 : zCs RX1 109 yX1_weight cX1_weight 3 (some .int) 1 := ⟨⟨zc_X1_weight, zi_X1_weight, by decide, zd_X1_weight, (Or.inl klX1_109)⟩, zs_X1_weight⟩
theorem klX2_35 : Cond.methodLink RX2 35 yJ7_fill_53178 ∈ zTb := (zTb_mem (zm_2 (List.mem_of_getElem? (i := 178) (by decide +kernel))) rfl)
theorem ksX2_35 : zCs RX2 35 yJ7_fill_53178 cJ7_fill_53178 4 (none) 2 := ⟨⟨zc_J7_fill_53178, zi_J7_fill_53178, by decide, zd_J7_fill_53178, (Or.inl klX2_35)⟩, zs_J7_fill_53178⟩
theorem zc_J7_fill_fda19 : Cond.code yJ7_fill_fda19 cJ7_fill_fda19 5 (none) ∈ zTb := (zTb_mem (zm_2 (List.mem_of_getElem? (i := 183) (by decide +kernel))) rfl)
theorem zi_J7_fill_fda19 : Cond.initialized yJ7_fill_fda19.cls ∈ zTb := (zTb_mem (zm_1 (List.mem_of_getElem? (i := 15) (by decide +kernel))) rfl)
theorem zs_J7_fill_fda19 : Cond.static yJ7_fill_fda19 ∈ zTb := (zTb_mem (zm_2 (List.mem_of_getElem? (i := 182) (by decide +kernel))) rfl)
theorem zd_J7_fill_fda19 : yJ7_fill_fda19.cls ≠ "java/lang/invoke/MethodHandle" ∧ yJ7_fill_fda19.cls ≠ "java/lang/invoke/VarHandle" ∧ (parseMethodDescriptor yJ7_fill_fda19.desc).map (fun d => d.parameters.length) = some 4 := by decide +kernel
theorem klX2_41 : Cond.methodLink RX2 41 yJ7_fill_fda19 ∈ zTb := (zTb_mem (zm_2 (List.mem_of_getElem? (i := 181) (by decide +kernel))) rfl)
theorem ksX2_41 : zCs RX2 41 yJ7_fill_fda19 cJ7_fill_fda19 5 (none) 4 := ⟨⟨zc_J7_fill_fda19, zi_J7_fill_fda19, by decide, zd_J7_fill_fda19, (Or.inl klX2_41)⟩, zs_J7_fill_fda19⟩
theorem zc_X5_isOpen : Cond.code yX5_isOpen cX5_isOpen 2 (some .boolean) ∈ zTb := (zTb_mem (zm_4 (List.mem_of_getElem? (i := 43) (by decide +kernel))) rfl)
theorem zi_X5_isOpen : Cond.initialized yX5_isOpen.cls ∈ zTb := (zTb_mem (zm_1 (List.mem_of_getElem? (i := 4) (by decide +kernel))) rfl)
theorem zx_X5_isOpen : Cond.instanceMethod yX5_isOpen ∈ zTb := (zTb_mem (zm_4 (List.mem_of_getElem? (i := 42) (by decide +kernel))) rfl)
theorem zv_X5_isOpen : Cond.selects yX5_isOpen.cls yX5_isOpen yX5_isOpen ∈ zTb := zp_1 (List.mem_of_getElem? (i := 5) rfl)
theorem zd_X5_isOpen : yX5_isOpen.cls ≠ "java/lang/invoke/MethodHandle" ∧ yX5_isOpen.cls ≠ "java/lang/invoke/VarHandle" ∧ (parseMethodDescriptor yX5_isOpen.desc).map (fun d => d.parameters.length) = some 1 := by decide +kernel
theorem kvX2_49 : zCv RX2 49 yX5_isOpen cX5_isOpen 2 (some .boolean) 1 5 := ⟨⟨zc_X5_isOpen, zi_X5_isOpen, by decide, zd_X5_isOpen, (Or.inr ⟨"TwoHandles", (List.mem_filter.mpr ⟨zm_4 (List.mem_of_getElem? (i := 40) (by decide +kernel)), rfl⟩)⟩)⟩, zx_X5_isOpen, zv_X5_isOpen, rfl⟩
theorem zc_X5_isTooLate : Cond.code yX5_isTooLate cX5_isTooLate 2 (some .boolean) ∈ zTb := (zTb_mem (zm_4 (List.mem_of_getElem? (i := 47) (by decide +kernel))) rfl)
theorem zi_X5_isTooLate : Cond.initialized yX5_isTooLate.cls ∈ zTb := (zTb_mem (zm_1 (List.mem_of_getElem? (i := 4) (by decide +kernel))) rfl)
theorem zx_X5_isTooLate : Cond.instanceMethod yX5_isTooLate ∈ zTb := (zTb_mem (zm_4 (List.mem_of_getElem? (i := 46) (by decide +kernel))) rfl)
theorem zv_X5_isTooLate : Cond.selects yX5_isTooLate.cls yX5_isTooLate yX5_isTooLate ∈ zTb := zp_1 (List.mem_of_getElem? (i := 6) rfl)
theorem zd_X5_isTooLate : yX5_isTooLate.cls ≠ "java/lang/invoke/MethodHandle" ∧ yX5_isTooLate.cls ≠ "java/lang/invoke/VarHandle" ∧ (parseMethodDescriptor yX5_isTooLate.desc).map (fun d => d.parameters.length) = some 1 := by decide +kernel
theorem kvX2_53 : zCv RX2 53 yX5_isTooLate cX5_isTooLate 2 (some .boolean) 1 5 := ⟨⟨zc_X5_isTooLate, zi_X5_isTooLate, by decide, zd_X5_isTooLate, (Or.inr ⟨"TwoHandles", (List.mem_filter.mpr ⟨zm_4 (List.mem_of_getElem? (i := 44) (by decide +kernel)), rfl⟩)⟩)⟩, zx_X5_isTooLate, zv_X5_isTooLate, rfl⟩
theorem zc_X2_findTwos : Cond.code yX2_findTwos cX2_findTwos 6 (none) ∈ zTb := (zTb_mem (zm_4 (List.mem_of_getElem? (i := 51) (by decide +kernel))) rfl)
theorem zi_X2_findTwos : Cond.initialized yX2_findTwos.cls ∈ zTb := (zTb_mem (zm_1 (List.mem_of_getElem? (i := 5) (by decide +kernel))) rfl)
theorem zx_X2_findTwos : Cond.instanceMethod yX2_findTwos ∈ zTb := (zTb_mem (zm_4 (List.mem_of_getElem? (i := 50) (by decide +kernel))) rfl)
theorem zv_X2_findTwos : Cond.selects yX2_findTwos.cls yX2_findTwos yX2_findTwos ∈ zTb := zp_1 (List.mem_of_getElem? (i := 7) rfl)
theorem zd_X2_findTwos : yX2_findTwos.cls ≠ "java/lang/invoke/MethodHandle" ∧ yX2_findTwos.cls ≠ "java/lang/invoke/VarHandle" ∧ (parseMethodDescriptor yX2_findTwos.desc).map (fun d => d.parameters.length) = some 2 := by decide +kernel
theorem klX2_56 : Cond.methodLink RX2 56 yX2_findTwos ∈ zTb := (zTb_mem (zm_4 (List.mem_of_getElem? (i := 48) (by decide +kernel))) rfl)
theorem kvX2_56 : zCv RX2 56 yX2_findTwos cX2_findTwos 6 (none) 2 2 := ⟨⟨zc_X2_findTwos, zi_X2_findTwos, by decide, zd_X2_findTwos, (Or.inl klX2_56)⟩, zx_X2_findTwos, zv_X2_findTwos, rfl⟩
theorem zc_X2_offer : Cond.code yX2_offer cX2_offer 9 (none) ∈ zTb := (zTb_mem (zm_4 (List.mem_of_getElem? (i := 77) (by decide +kernel))) rfl)
theorem zi_X2_offer : Cond.initialized yX2_offer.cls ∈ zTb := (zTb_mem (zm_1 (List.mem_of_getElem? (i := 5) (by decide +kernel))) rfl)
theorem zx_X2_offer : Cond.instanceMethod yX2_offer ∈ zTb := (zTb_mem (zm_4 (List.mem_of_getElem? (i := 76) (by decide +kernel))) rfl)
theorem zv_X2_offer : Cond.selects yX2_offer.cls yX2_offer yX2_offer ∈ zTb := zp_1 (List.mem_of_getElem? (i := 12) rfl)
theorem zd_X2_offer : yX2_offer.cls ≠ "java/lang/invoke/MethodHandle" ∧ yX2_offer.cls ≠ "java/lang/invoke/VarHandle" ∧ (parseMethodDescriptor yX2_offer.desc).map (fun d => d.parameters.length) = some 1 := by decide +kernel
theorem klX2_60 : Cond.methodLink RX2 60 yX2_offer ∈ zTb := (zTb_mem (zm_4 (List.mem_of_getElem? (i := 74) (by decide +kernel))) rfl)
theorem kvX2_60 : zCv RX2 60 yX2_offer cX2_offer 9 (none) 1 2 := ⟨⟨zc_X2_offer, zi_X2_offer, by decide, zd_X2_offer, (Or.inl klX2_60)⟩, zx_X2_offer, zv_X2_offer, rfl⟩
theorem zc_X5_errs : Cond.code yX5_errs cX5_errs 4 (some .int) ∈ zTb := (zTb_mem (zm_4 (List.mem_of_getElem? (i := 55) (by decide +kernel))) rfl)
theorem zi_X5_errs : Cond.initialized yX5_errs.cls ∈ zTb := (zTb_mem (zm_1 (List.mem_of_getElem? (i := 4) (by decide +kernel))) rfl)
theorem zx_X5_errs : Cond.instanceMethod yX5_errs ∈ zTb := (zTb_mem (zm_4 (List.mem_of_getElem? (i := 54) (by decide +kernel))) rfl)
theorem zv_X5_errs : Cond.selects yX5_errs.cls yX5_errs yX5_errs ∈ zTb := zp_1 (List.mem_of_getElem? (i := 8) rfl)
theorem zd_X5_errs : yX5_errs.cls ≠ "java/lang/invoke/MethodHandle" ∧ yX5_errs.cls ≠ "java/lang/invoke/VarHandle" ∧ (parseMethodDescriptor yX5_errs.desc).map (fun d => d.parameters.length) = some 3 := by decide +kernel
theorem kvX2_64 : zCv RX2 64 yX5_errs cX5_errs 4 (some .int) 3 5 := ⟨⟨zc_X5_errs, zi_X5_errs, by decide, zd_X5_errs, (Or.inr ⟨"TwoHandles", (List.mem_filter.mpr ⟨zm_4 (List.mem_of_getElem? (i := 52) (by decide +kernel)), rfl⟩)⟩)⟩, zx_X5_errs, zv_X5_errs, rfl⟩
theorem zc_X2_worthIn : Cond.code yX2_worthIn cX2_worthIn 1 (some .int) ∈ zTb := (zTb_mem (zm_4 (List.mem_of_getElem? (i := 84) (by decide +kernel))) rfl)
theorem zi_X2_worthIn : Cond.initialized yX2_worthIn.cls ∈ zTb := (zTb_mem (zm_1 (List.mem_of_getElem? (i := 5) (by decide +kernel))) rfl)
theorem zs_X2_worthIn : Cond.static yX2_worthIn ∈ zTb := (zTb_mem (zm_4 (List.mem_of_getElem? (i := 83) (by decide +kernel))) rfl)
theorem zd_X2_worthIn : yX2_worthIn.cls ≠ "java/lang/invoke/MethodHandle" ∧ yX2_worthIn.cls ≠ "java/lang/invoke/VarHandle" ∧ (parseMethodDescriptor yX2_worthIn.desc).map (fun d => d.parameters.length) = some 1 := by decide +kernel
theorem klX2_71 : Cond.methodLink RX2 71 yX2_worthIn ∈ zTb := (zTb_mem (zm_4 (List.mem_of_getElem? (i := 82) (by decide +kernel))) rfl)
theorem ksX2_71 : zCs RX2 71 yX2_worthIn cX2_worthIn 1 (some .int) 1 := ⟨⟨zc_X2_worthIn, zi_X2_worthIn, by decide, zd_X2_worthIn, (Or.inl klX2_71)⟩, zs_X2_worthIn⟩
theorem zc_X2_worthAtMost : Cond.code yX2_worthAtMost cX2_worthAtMost 1 (some .int) ∈ zTb := (zTb_mem (zm_4 (List.mem_of_getElem? (i := 81) (by decide +kernel))) rfl)
theorem zi_X2_worthAtMost : Cond.initialized yX2_worthAtMost.cls ∈ zTb := (zTb_mem (zm_1 (List.mem_of_getElem? (i := 5) (by decide +kernel))) rfl)
theorem zx_X2_worthAtMost : Cond.instanceMethod yX2_worthAtMost ∈ zTb := (zTb_mem (zm_4 (List.mem_of_getElem? (i := 80) (by decide +kernel))) rfl)
theorem zv_X2_worthAtMost : Cond.selects yX2_worthAtMost.cls yX2_worthAtMost yX2_worthAtMost ∈ zTb := zp_1 (List.mem_of_getElem? (i := 13) rfl)
theorem zd_X2_worthAtMost : yX2_worthAtMost.cls ≠ "java/lang/invoke/MethodHandle" ∧ yX2_worthAtMost.cls ≠ "java/lang/invoke/VarHandle" ∧ (parseMethodDescriptor yX2_worthAtMost.desc).map (fun d => d.parameters.length) = some 0 := by decide +kernel
theorem klX2_75 : Cond.methodLink RX2 75 yX2_worthAtMost ∈ zTb := (zTb_mem (zm_5 (List.mem_of_getElem? (i := 238) (by decide +kernel))) rfl)
theorem kvX2_75 : zCv RX2 75 yX2_worthAtMost cX2_worthAtMost 1 (some .int) 0 2 := ⟨⟨zc_X2_worthAtMost, zi_X2_worthAtMost, by decide, zd_X2_worthAtMost, (Or.inl klX2_75)⟩, zx_X2_worthAtMost, zv_X2_worthAtMost, rfl⟩
theorem klX2_79 : Cond.methodLink RX2 79 yJ6_bitCount_0f7a4 ∈ zTb := (zTb_mem (zm_6 (List.mem_of_getElem? (i := 43) (by decide +kernel))) rfl)
theorem ksX2_79 : zCs RX2 79 yJ6_bitCount_0f7a4 cJ6_bitCount_0f7a4 1 (some .int) 1 := ⟨⟨zc_J6_bitCount_0f7a4, zi_J6_bitCount_0f7a4, by decide, zd_J6_bitCount_0f7a4, (Or.inl klX2_79)⟩, zs_J6_bitCount_0f7a4⟩
theorem zc_X2_doorsAtMost : Cond.code yX2_doorsAtMost cX2_doorsAtMost 1 (some .int) ∈ zTb := (zTb_mem (zm_5 (List.mem_of_getElem? (i := 237) (by decide +kernel))) rfl)
theorem zi_X2_doorsAtMost : Cond.initialized yX2_doorsAtMost.cls ∈ zTb := (zTb_mem (zm_1 (List.mem_of_getElem? (i := 5) (by decide +kernel))) rfl)
theorem zx_X2_doorsAtMost : Cond.instanceMethod yX2_doorsAtMost ∈ zTb := (zTb_mem (zm_5 (List.mem_of_getElem? (i := 236) (by decide +kernel))) rfl)
theorem zv_X2_doorsAtMost : Cond.selects yX2_doorsAtMost.cls yX2_doorsAtMost yX2_doorsAtMost ∈ zTb := zp_4 (List.mem_of_getElem? (i := 5) rfl)
theorem zd_X2_doorsAtMost : yX2_doorsAtMost.cls ≠ "java/lang/invoke/MethodHandle" ∧ yX2_doorsAtMost.cls ≠ "java/lang/invoke/VarHandle" ∧ (parseMethodDescriptor yX2_doorsAtMost.desc).map (fun d => d.parameters.length) = some 0 := by decide +kernel
theorem klX2_84 : Cond.methodLink RX2 84 yX2_doorsAtMost ∈ zTb := (zTb_mem (zm_6 (List.mem_of_getElem? (i := 10) (by decide +kernel))) rfl)
theorem kvX2_84 : zCv RX2 84 yX2_doorsAtMost cX2_doorsAtMost 1 (some .int) 0 2 := ⟨⟨zc_X2_doorsAtMost, zi_X2_doorsAtMost, by decide, zd_X2_doorsAtMost, (Or.inl klX2_84)⟩, zx_X2_doorsAtMost, zv_X2_doorsAtMost, rfl⟩
theorem zc_X2_seat : Cond.code yX2_seat cX2_seat 6 (some .boolean) ∈ zTb := (zTb_mem (zm_6 (List.mem_of_getElem? (i := 13) (by decide +kernel))) rfl)
theorem zi_X2_seat : Cond.initialized yX2_seat.cls ∈ zTb := (zTb_mem (zm_1 (List.mem_of_getElem? (i := 5) (by decide +kernel))) rfl)
theorem zs_X2_seat : Cond.static yX2_seat ∈ zTb := (zTb_mem (zm_6 (List.mem_of_getElem? (i := 12) (by decide +kernel))) rfl)
theorem zd_X2_seat : yX2_seat.cls ≠ "java/lang/invoke/MethodHandle" ∧ yX2_seat.cls ≠ "java/lang/invoke/VarHandle" ∧ (parseMethodDescriptor yX2_seat.desc).map (fun d => d.parameters.length) = some 4 := by decide +kernel
theorem klX2_87 : Cond.methodLink RX2 87 yX2_seat ∈ zTb := (zTb_mem (zm_6 (List.mem_of_getElem? (i := 11) (by decide +kernel))) rfl)
theorem ksX2_87 : zCs RX2 87 yX2_seat cX2_seat 6 (some .boolean) 4 := ⟨⟨zc_X2_seat, zi_X2_seat, by decide, zd_X2_seat, (Or.inl klX2_87)⟩, zs_X2_seat⟩
theorem zc_X2_asPair : Cond.code yX2_asPair cX2_asPair 2 (some .int) ∈ zTb := (zTb_mem (zm_6 (List.mem_of_getElem? (i := 16) (by decide +kernel))) rfl)
theorem zi_X2_asPair : Cond.initialized yX2_asPair.cls ∈ zTb := (zTb_mem (zm_1 (List.mem_of_getElem? (i := 5) (by decide +kernel))) rfl)
theorem zs_X2_asPair : Cond.static yX2_asPair ∈ zTb := (zTb_mem (zm_6 (List.mem_of_getElem? (i := 15) (by decide +kernel))) rfl)
theorem zd_X2_asPair : yX2_asPair.cls ≠ "java/lang/invoke/MethodHandle" ∧ yX2_asPair.cls ≠ "java/lang/invoke/VarHandle" ∧ (parseMethodDescriptor yX2_asPair.desc).map (fun d => d.parameters.length) = some 1 := by decide +kernel
theorem klX2_91 : Cond.methodLink RX2 91 yX2_asPair ∈ zTb := (zTb_mem (zm_6 (List.mem_of_getElem? (i := 14) (by decide +kernel))) rfl)
theorem ksX2_91 : zCs RX2 91 yX2_asPair cX2_asPair 2 (some .int) 1 := ⟨⟨zc_X2_asPair, zi_X2_asPair, by decide, zd_X2_asPair, (Or.inl klX2_91)⟩, zs_X2_asPair⟩
theorem klX2_94 : Cond.methodLink RX2 94 yJ6_numberOfTrailingZeros_0f7a4 ∈ zTb := (zTb_mem (zm_6 (List.mem_of_getElem? (i := 17) (by decide +kernel))) rfl)
theorem ksX2_94 : zCs RX2 94 yJ6_numberOfTrailingZeros_0f7a4 cJ6_numberOfTrailingZeros_0f7a4 2 (some .int) 1 := ⟨⟨zc_J6_numberOfTrailingZeros_0f7a4, zi_J6_numberOfTrailingZeros_0f7a4, by decide, zd_J6_numberOfTrailingZeros_0f7a4, (Or.inl klX2_94)⟩, zs_J6_numberOfTrailingZeros_0f7a4⟩
theorem zc_X7_startAnew : Cond.code yX7_startAnew cX7_startAnew 1 (none) ∈ zTb := (zTb_mem (zm_4 (List.mem_of_getElem? (i := 126) (by decide +kernel))) rfl)
theorem zi_X7_startAnew : Cond.initialized yX7_startAnew.cls ∈ zTb := (zTb_mem (zm_1 (List.mem_of_getElem? (i := 2) (by decide +kernel))) rfl)
theorem zx_X7_startAnew : Cond.instanceMethod yX7_startAnew ∈ zTb := (zTb_mem (zm_4 (List.mem_of_getElem? (i := 125) (by decide +kernel))) rfl)
theorem zv_X7_startAnew : Cond.selects yX7_startAnew.cls yX7_startAnew yX7_startAnew ∈ zTb := zp_2 (List.mem_of_getElem? (i := 0) rfl)
theorem zd_X7_startAnew : yX7_startAnew.cls ≠ "java/lang/invoke/MethodHandle" ∧ yX7_startAnew.cls ≠ "java/lang/invoke/VarHandle" ∧ (parseMethodDescriptor yX7_startAnew.desc).map (fun d => d.parameters.length) = some 0 := by decide +kernel
theorem kvX3_38 : zCv RX3 38 yX7_startAnew cX7_startAnew 1 (none) 0 7 := ⟨⟨zc_X7_startAnew, zi_X7_startAnew, by decide, zd_X7_startAnew, (Or.inr ⟨"TwoHandles", (List.mem_filter.mpr ⟨zm_4 (List.mem_of_getElem? (i := 123) (by decide +kernel)), rfl⟩)⟩)⟩, zx_X7_startAnew, zv_X7_startAnew, rfl⟩
theorem zc_X3_readAsks : Cond.code yX3_readAsks cX3_readAsks 2 (some .boolean) ∈ zTb := (zTb_mem (zm_4 (List.mem_of_getElem? (i := 131) (by decide +kernel))) rfl)
theorem zi_X3_readAsks : Cond.initialized yX3_readAsks.cls ∈ zTb := (zTb_mem (zm_1 (List.mem_of_getElem? (i := 3) (by decide +kernel))) rfl)
theorem zx_X3_readAsks : Cond.instanceMethod yX3_readAsks ∈ zTb := (zTb_mem (zm_4 (List.mem_of_getElem? (i := 130) (by decide +kernel))) rfl)
theorem zv_X3_readAsks : Cond.selects yX3_readAsks.cls yX3_readAsks yX3_readAsks ∈ zTb := zp_2 (List.mem_of_getElem? (i := 1) rfl)
theorem zd_X3_readAsks : yX3_readAsks.cls ≠ "java/lang/invoke/MethodHandle" ∧ yX3_readAsks.cls ≠ "java/lang/invoke/VarHandle" ∧ (parseMethodDescriptor yX3_readAsks.desc).map (fun d => d.parameters.length) = some 0 := by decide +kernel
theorem klX3_43 : Cond.methodLink RX3 43 yX3_readAsks ∈ zTb := (zTb_mem (zm_4 (List.mem_of_getElem? (i := 128) (by decide +kernel))) rfl)
theorem kvX3_43 : zCv RX3 43 yX3_readAsks cX3_readAsks 2 (some .boolean) 0 3 := ⟨⟨zc_X3_readAsks, zi_X3_readAsks, by decide, zd_X3_readAsks, (Or.inl klX3_43)⟩, zx_X3_readAsks, zv_X3_readAsks, rfl⟩
theorem zc_X3_skipBlanks : Cond.code yX3_skipBlanks cX3_skipBlanks 1 (none) ∈ zTb := (zTb_mem (zm_4 (List.mem_of_getElem? (i := 135) (by decide +kernel))) rfl)
theorem zi_X3_skipBlanks : Cond.initialized yX3_skipBlanks.cls ∈ zTb := (zTb_mem (zm_1 (List.mem_of_getElem? (i := 3) (by decide +kernel))) rfl)
theorem zx_X3_skipBlanks : Cond.instanceMethod yX3_skipBlanks ∈ zTb := (zTb_mem (zm_4 (List.mem_of_getElem? (i := 134) (by decide +kernel))) rfl)
theorem zv_X3_skipBlanks : Cond.selects yX3_skipBlanks.cls yX3_skipBlanks yX3_skipBlanks ∈ zTb := zp_2 (List.mem_of_getElem? (i := 2) rfl)
theorem zd_X3_skipBlanks : yX3_skipBlanks.cls ≠ "java/lang/invoke/MethodHandle" ∧ yX3_skipBlanks.cls ≠ "java/lang/invoke/VarHandle" ∧ (parseMethodDescriptor yX3_skipBlanks.desc).map (fun d => d.parameters.length) = some 0 := by decide +kernel
theorem klX3_47 : Cond.methodLink RX3 47 yX3_skipBlanks ∈ zTb := (zTb_mem (zm_4 (List.mem_of_getElem? (i := 132) (by decide +kernel))) rfl)
theorem kvX3_47 : zCv RX3 47 yX3_skipBlanks cX3_skipBlanks 1 (none) 0 3 := ⟨⟨zc_X3_skipBlanks, zi_X3_skipBlanks, by decide, zd_X3_skipBlanks, (Or.inl klX3_47)⟩, zx_X3_skipBlanks, zv_X3_skipBlanks, rfl⟩
theorem zc_X3_readClause : Cond.code yX3_readClause cX3_readClause 5 (some .boolean) ∈ zTb := (zTb_mem (zm_4 (List.mem_of_getElem? (i := 201) (by decide +kernel))) rfl)
theorem zi_X3_readClause : Cond.initialized yX3_readClause.cls ∈ zTb := (zTb_mem (zm_1 (List.mem_of_getElem? (i := 3) (by decide +kernel))) rfl)
theorem zx_X3_readClause : Cond.instanceMethod yX3_readClause ∈ zTb := (zTb_mem (zm_4 (List.mem_of_getElem? (i := 200) (by decide +kernel))) rfl)
theorem zv_X3_readClause : Cond.selects yX3_readClause.cls yX3_readClause yX3_readClause ∈ zTb := zp_2 (List.mem_of_getElem? (i := 10) rfl)
theorem zd_X3_readClause : yX3_readClause.cls ≠ "java/lang/invoke/MethodHandle" ∧ yX3_readClause.cls ≠ "java/lang/invoke/VarHandle" ∧ (parseMethodDescriptor yX3_readClause.desc).map (fun d => d.parameters.length) = some 1 := by decide +kernel
theorem klX3_50 : Cond.methodLink RX3 50 yX3_readClause ∈ zTb := (zTb_mem (zm_4 (List.mem_of_getElem? (i := 198) (by decide +kernel))) rfl)
theorem kvX3_50 : zCv RX3 50 yX3_readClause cX3_readClause 5 (some .boolean) 1 3 := ⟨⟨zc_X3_readClause, zi_X3_readClause, by decide, zd_X3_readClause, (Or.inl klX3_50)⟩, zx_X3_readClause, zv_X3_readClause, rfl⟩
theorem zc_X3_readWord : Cond.code yX3_readWord cX3_readWord 2 (some .int) ∈ zTb := (zTb_mem (zm_4 (List.mem_of_getElem? (i := 139) (by decide +kernel))) rfl)
theorem zi_X3_readWord : Cond.initialized yX3_readWord.cls ∈ zTb := (zTb_mem (zm_1 (List.mem_of_getElem? (i := 3) (by decide +kernel))) rfl)
theorem zx_X3_readWord : Cond.instanceMethod yX3_readWord ∈ zTb := (zTb_mem (zm_4 (List.mem_of_getElem? (i := 138) (by decide +kernel))) rfl)
theorem zv_X3_readWord : Cond.selects yX3_readWord.cls yX3_readWord yX3_readWord ∈ zTb := zp_2 (List.mem_of_getElem? (i := 3) rfl)
theorem zd_X3_readWord : yX3_readWord.cls ≠ "java/lang/invoke/MethodHandle" ∧ yX3_readWord.cls ≠ "java/lang/invoke/VarHandle" ∧ (parseMethodDescriptor yX3_readWord.desc).map (fun d => d.parameters.length) = some 0 := by decide +kernel
theorem klX3_54 : Cond.methodLink RX3 54 yX3_readWord ∈ zTb := (zTb_mem (zm_4 (List.mem_of_getElem? (i := 136) (by decide +kernel))) rfl)
theorem kvX3_54 : zCv RX3 54 yX3_readWord cX3_readWord 2 (some .int) 0 3 := ⟨⟨zc_X3_readWord, zi_X3_readWord, by decide, zd_X3_readWord, (Or.inl klX3_54)⟩, zx_X3_readWord, zv_X3_readWord, rfl⟩
theorem zc_X3_wrong : Cond.code yX3_wrong cX3_wrong 3 (some .boolean) ∈ zTb := (zTb_mem (zm_4 (List.mem_of_getElem? (i := 180) (by decide +kernel))) rfl)
theorem zi_X3_wrong : Cond.initialized yX3_wrong.cls ∈ zTb := (zTb_mem (zm_1 (List.mem_of_getElem? (i := 3) (by decide +kernel))) rfl)
theorem zx_X3_wrong : Cond.instanceMethod yX3_wrong ∈ zTb := (zTb_mem (zm_4 (List.mem_of_getElem? (i := 179) (by decide +kernel))) rfl)
theorem zv_X3_wrong : Cond.selects yX3_wrong.cls yX3_wrong yX3_wrong ∈ zTb := zp_2 (List.mem_of_getElem? (i := 5) rfl)
theorem zd_X3_wrong : yX3_wrong.cls ≠ "java/lang/invoke/MethodHandle" ∧ yX3_wrong.cls ≠ "java/lang/invoke/VarHandle" ∧ (parseMethodDescriptor yX3_wrong.desc).map (fun d => d.parameters.length) = some 2 := by decide +kernel
theorem klX3_58 : Cond.methodLink RX3 58 yX3_wrong ∈ zTb := (zTb_mem (zm_4 (List.mem_of_getElem? (i := 177) (by decide +kernel))) rfl)
theorem kvX3_58 : zCv RX3 58 yX3_wrong cX3_wrong 3 (some .boolean) 2 3 := ⟨⟨zc_X3_wrong, zi_X3_wrong, by decide, zd_X3_wrong, (Or.inl klX3_58)⟩, zx_X3_wrong, zv_X3_wrong, rfl⟩
theorem zc_X3_readNumber : Cond.code yX3_readNumber cX3_readNumber 6 (some .int) ∈ zTb := (zTb_mem (zm_4 (List.mem_of_getElem? (i := 184) (by decide +kernel))) rfl)
theorem zi_X3_readNumber : Cond.initialized yX3_readNumber.cls ∈ zTb := (zTb_mem (zm_1 (List.mem_of_getElem? (i := 3) (by decide +kernel))) rfl)
theorem zx_X3_readNumber : Cond.instanceMethod yX3_readNumber ∈ zTb := (zTb_mem (zm_4 (List.mem_of_getElem? (i := 183) (by decide +kernel))) rfl)
theorem zv_X3_readNumber : Cond.selects yX3_readNumber.cls yX3_readNumber yX3_readNumber ∈ zTb := zp_2 (List.mem_of_getElem? (i := 6) rfl)
theorem zd_X3_readNumber : yX3_readNumber.cls ≠ "java/lang/invoke/MethodHandle" ∧ yX3_readNumber.cls ≠ "java/lang/invoke/VarHandle" ∧ (parseMethodDescriptor yX3_readNumber.desc).map (fun d => d.parameters.length) = some 2 := by decide +kernel
theorem klX3_62 : Cond.methodLink RX3 62 yX3_readNumber ∈ zTb := (zTb_mem (zm_4 (List.mem_of_getElem? (i := 181) (by decide +kernel))) rfl)
theorem kvX3_62 : zCv RX3 62 yX3_readNumber cX3_readNumber 6 (some .int) 2 3 := ⟨⟨zc_X3_readNumber, zi_X3_readNumber, by decide, zd_X3_readNumber, (Or.inl klX3_62)⟩, zx_X3_readNumber, zv_X3_readNumber, rfl⟩
theorem zc_X3_readSemicolon : Cond.code yX3_readSemicolon cX3_readSemicolon 1 (some .boolean) ∈ zTb := (zTb_mem (zm_4 (List.mem_of_getElem? (i := 197) (by decide +kernel))) rfl)
theorem zi_X3_readSemicolon : Cond.initialized yX3_readSemicolon.cls ∈ zTb := (zTb_mem (zm_1 (List.mem_of_getElem? (i := 3) (by decide +kernel))) rfl)
theorem zx_X3_readSemicolon : Cond.instanceMethod yX3_readSemicolon ∈ zTb := (zTb_mem (zm_4 (List.mem_of_getElem? (i := 196) (by decide +kernel))) rfl)
theorem zv_X3_readSemicolon : Cond.selects yX3_readSemicolon.cls yX3_readSemicolon yX3_readSemicolon ∈ zTb := zp_2 (List.mem_of_getElem? (i := 9) rfl)
theorem zd_X3_readSemicolon : yX3_readSemicolon.cls ≠ "java/lang/invoke/MethodHandle" ∧ yX3_readSemicolon.cls ≠ "java/lang/invoke/VarHandle" ∧ (parseMethodDescriptor yX3_readSemicolon.desc).map (fun d => d.parameters.length) = some 0 := by decide +kernel
theorem klX3_68 : Cond.methodLink RX3 68 yX3_readSemicolon ∈ zTb := (zTb_mem (zm_4 (List.mem_of_getElem? (i := 194) (by decide +kernel))) rfl)
theorem kvX3_68 : zCv RX3 68 yX3_readSemicolon cX3_readSemicolon 1 (some .boolean) 0 3 := ⟨⟨zc_X3_readSemicolon, zi_X3_readSemicolon, by decide, zd_X3_readSemicolon, (Or.inl klX3_68)⟩, zx_X3_readSemicolon, zv_X3_readSemicolon, rfl⟩
theorem zc_X3_readRest : Cond.code yX3_readRest cX3_readRest 2 (some .boolean) ∈ zTb := (zTb_mem (zm_4 (List.mem_of_getElem? (i := 205) (by decide +kernel))) rfl)
theorem zi_X3_readRest : Cond.initialized yX3_readRest.cls ∈ zTb := (zTb_mem (zm_1 (List.mem_of_getElem? (i := 3) (by decide +kernel))) rfl)
theorem zx_X3_readRest : Cond.instanceMethod yX3_readRest ∈ zTb := (zTb_mem (zm_4 (List.mem_of_getElem? (i := 204) (by decide +kernel))) rfl)
theorem zv_X3_readRest : Cond.selects yX3_readRest.cls yX3_readRest yX3_readRest ∈ zTb := zp_2 (List.mem_of_getElem? (i := 11) rfl)
theorem zd_X3_readRest : yX3_readRest.cls ≠ "java/lang/invoke/MethodHandle" ∧ yX3_readRest.cls ≠ "java/lang/invoke/VarHandle" ∧ (parseMethodDescriptor yX3_readRest.desc).map (fun d => d.parameters.length) = some 1 := by decide +kernel
theorem klX3_77 : Cond.methodLink RX3 77 yX3_readRest ∈ zTb := (zTb_mem (zm_4 (List.mem_of_getElem? (i := 202) (by decide +kernel))) rfl)
theorem kvX3_77 : zCv RX3 77 yX3_readRest cX3_readRest 2 (some .boolean) 1 3 := ⟨⟨zc_X3_readRest, zi_X3_readRest, by decide, zd_X3_readRest, (Or.inl klX3_77)⟩, zx_X3_readRest, zv_X3_readRest, rfl⟩
theorem zc_X3_readPerson : Cond.code yX3_readPerson cX3_readPerson 3 (some .boolean) ∈ zTb := (zTb_mem (zm_4 (List.mem_of_getElem? (i := 209) (by decide +kernel))) rfl)
theorem zi_X3_readPerson : Cond.initialized yX3_readPerson.cls ∈ zTb := (zTb_mem (zm_1 (List.mem_of_getElem? (i := 3) (by decide +kernel))) rfl)
theorem zx_X3_readPerson : Cond.instanceMethod yX3_readPerson ∈ zTb := (zTb_mem (zm_4 (List.mem_of_getElem? (i := 208) (by decide +kernel))) rfl)
theorem zv_X3_readPerson : Cond.selects yX3_readPerson.cls yX3_readPerson yX3_readPerson ∈ zTb := zp_2 (List.mem_of_getElem? (i := 12) rfl)
theorem zd_X3_readPerson : yX3_readPerson.cls ≠ "java/lang/invoke/MethodHandle" ∧ yX3_readPerson.cls ≠ "java/lang/invoke/VarHandle" ∧ (parseMethodDescriptor yX3_readPerson.desc).map (fun d => d.parameters.length) = some 0 := by decide +kernel
theorem klX3_80 : Cond.methodLink RX3 80 yX3_readPerson ∈ zTb := (zTb_mem (zm_4 (List.mem_of_getElem? (i := 206) (by decide +kernel))) rfl)
theorem kvX3_80 : zCv RX3 80 yX3_readPerson cX3_readPerson 3 (some .boolean) 0 3 := ⟨⟨zc_X3_readPerson, zi_X3_readPerson, by decide, zd_X3_readPerson, (Or.inl klX3_80)⟩, zx_X3_readPerson, zv_X3_readPerson, rfl⟩
theorem zc_X3_readFeigns : Cond.code yX3_readFeigns cX3_readFeigns 2 (some .boolean) ∈ zTb := (zTb_mem (zm_4 (List.mem_of_getElem? (i := 217) (by decide +kernel))) rfl)
theorem zi_X3_readFeigns : Cond.initialized yX3_readFeigns.cls ∈ zTb := (zTb_mem (zm_1 (List.mem_of_getElem? (i := 3) (by decide +kernel))) rfl)
theorem zx_X3_readFeigns : Cond.instanceMethod yX3_readFeigns ∈ zTb := (zTb_mem (zm_4 (List.mem_of_getElem? (i := 216) (by decide +kernel))) rfl)
theorem zv_X3_readFeigns : Cond.selects yX3_readFeigns.cls yX3_readFeigns yX3_readFeigns ∈ zTb := zp_2 (List.mem_of_getElem? (i := 14) rfl)
theorem zd_X3_readFeigns : yX3_readFeigns.cls ≠ "java/lang/invoke/MethodHandle" ∧ yX3_readFeigns.cls ≠ "java/lang/invoke/VarHandle" ∧ (parseMethodDescriptor yX3_readFeigns.desc).map (fun d => d.parameters.length) = some 0 := by decide +kernel
theorem klX3_83 : Cond.methodLink RX3 83 yX3_readFeigns ∈ zTb := (zTb_mem (zm_4 (List.mem_of_getElem? (i := 214) (by decide +kernel))) rfl)
theorem kvX3_83 : zCv RX3 83 yX3_readFeigns cX3_readFeigns 2 (some .boolean) 0 3 := ⟨⟨zc_X3_readFeigns, zi_X3_readFeigns, by decide, zd_X3_readFeigns, (Or.inl klX3_83)⟩, zx_X3_readFeigns, zv_X3_readFeigns, rfl⟩
theorem zc_X3_readKin : Cond.code yX3_readKin cX3_readKin 4 (some .boolean) ∈ zTb := (zTb_mem (zm_4 (List.mem_of_getElem? (i := 221) (by decide +kernel))) rfl)
theorem zi_X3_readKin : Cond.initialized yX3_readKin.cls ∈ zTb := (zTb_mem (zm_1 (List.mem_of_getElem? (i := 3) (by decide +kernel))) rfl)
theorem zx_X3_readKin : Cond.instanceMethod yX3_readKin ∈ zTb := (zTb_mem (zm_4 (List.mem_of_getElem? (i := 220) (by decide +kernel))) rfl)
theorem zv_X3_readKin : Cond.selects yX3_readKin.cls yX3_readKin yX3_readKin ∈ zTb := zp_2 (List.mem_of_getElem? (i := 15) rfl)
theorem zd_X3_readKin : yX3_readKin.cls ≠ "java/lang/invoke/MethodHandle" ∧ yX3_readKin.cls ≠ "java/lang/invoke/VarHandle" ∧ (parseMethodDescriptor yX3_readKin.desc).map (fun d => d.parameters.length) = some 0 := by decide +kernel
theorem klX3_86 : Cond.methodLink RX3 86 yX3_readKin ∈ zTb := (zTb_mem (zm_4 (List.mem_of_getElem? (i := 218) (by decide +kernel))) rfl)
theorem kvX3_86 : zCv RX3 86 yX3_readKin cX3_readKin 4 (some .boolean) 0 3 := ⟨⟨zc_X3_readKin, zi_X3_readKin, by decide, zd_X3_readKin, (Or.inl klX3_86)⟩, zx_X3_readKin, zv_X3_readKin, rfl⟩
theorem zc_X3_readDoor : Cond.code yX3_readDoor cX3_readDoor 2 (some .boolean) ∈ zTb := (zTb_mem (zm_4 (List.mem_of_getElem? (i := 229) (by decide +kernel))) rfl)
theorem zi_X3_readDoor : Cond.initialized yX3_readDoor.cls ∈ zTb := (zTb_mem (zm_1 (List.mem_of_getElem? (i := 3) (by decide +kernel))) rfl)
theorem zx_X3_readDoor : Cond.instanceMethod yX3_readDoor ∈ zTb := (zTb_mem (zm_4 (List.mem_of_getElem? (i := 228) (by decide +kernel))) rfl)
theorem zv_X3_readDoor : Cond.selects yX3_readDoor.cls yX3_readDoor yX3_readDoor ∈ zTb := zp_3 (List.mem_of_getElem? (i := 1) rfl)
theorem zd_X3_readDoor : yX3_readDoor.cls ≠ "java/lang/invoke/MethodHandle" ∧ yX3_readDoor.cls ≠ "java/lang/invoke/VarHandle" ∧ (parseMethodDescriptor yX3_readDoor.desc).map (fun d => d.parameters.length) = some 0 := by decide +kernel
theorem klX3_89 : Cond.methodLink RX3 89 yX3_readDoor ∈ zTb := (zTb_mem (zm_4 (List.mem_of_getElem? (i := 226) (by decide +kernel))) rfl)
theorem kvX3_89 : zCv RX3 89 yX3_readDoor cX3_readDoor 2 (some .boolean) 0 3 := ⟨⟨zc_X3_readDoor, zi_X3_readDoor, by decide, zd_X3_readDoor, (Or.inl klX3_89)⟩, zx_X3_readDoor, zv_X3_readDoor, rfl⟩
theorem zc_X3_readSlate : Cond.code yX3_readSlate cX3_readSlate 3 (some .boolean) ∈ zTb := (zTb_mem (zm_4 (List.mem_of_getElem? (i := 233) (by decide +kernel))) rfl)
theorem zi_X3_readSlate : Cond.initialized yX3_readSlate.cls ∈ zTb := (zTb_mem (zm_1 (List.mem_of_getElem? (i := 3) (by decide +kernel))) rfl)
theorem zx_X3_readSlate : Cond.instanceMethod yX3_readSlate ∈ zTb := (zTb_mem (zm_4 (List.mem_of_getElem? (i := 232) (by decide +kernel))) rfl)
theorem zv_X3_readSlate : Cond.selects yX3_readSlate.cls yX3_readSlate yX3_readSlate ∈ zTb := zp_3 (List.mem_of_getElem? (i := 2) rfl)
theorem zd_X3_readSlate : yX3_readSlate.cls ≠ "java/lang/invoke/MethodHandle" ∧ yX3_readSlate.cls ≠ "java/lang/invoke/VarHandle" ∧ (parseMethodDescriptor yX3_readSlate.desc).map (fun d => d.parameters.length) = some 0 := by decide +kernel
theorem klX3_98 : Cond.methodLink RX3 98 yX3_readSlate ∈ zTb := (zTb_mem (zm_4 (List.mem_of_getElem? (i := 230) (by decide +kernel))) rfl)
theorem kvX3_98 : zCv RX3 98 yX3_readSlate cX3_readSlate 3 (some .boolean) 0 3 := ⟨⟨zc_X3_readSlate, zi_X3_readSlate, by decide, zd_X3_readSlate, (Or.inl klX3_98)⟩, zx_X3_readSlate, zv_X3_readSlate, rfl⟩
theorem zc_X3_readDigits : Cond.code yX3_readDigits cX3_readDigits 2 (some .int) ∈ zTb := (zTb_mem (zm_4 (List.mem_of_getElem? (i := 188) (by decide +kernel))) rfl)
theorem zi_X3_readDigits : Cond.initialized yX3_readDigits.cls ∈ zTb := (zTb_mem (zm_1 (List.mem_of_getElem? (i := 3) (by decide +kernel))) rfl)
theorem zx_X3_readDigits : Cond.instanceMethod yX3_readDigits ∈ zTb := (zTb_mem (zm_4 (List.mem_of_getElem? (i := 187) (by decide +kernel))) rfl)
theorem zv_X3_readDigits : Cond.selects yX3_readDigits.cls yX3_readDigits yX3_readDigits ∈ zTb := zp_2 (List.mem_of_getElem? (i := 7) rfl)
theorem zd_X3_readDigits : yX3_readDigits.cls ≠ "java/lang/invoke/MethodHandle" ∧ yX3_readDigits.cls ≠ "java/lang/invoke/VarHandle" ∧ (parseMethodDescriptor yX3_readDigits.desc).map (fun d => d.parameters.length) = some 0 := by decide +kernel
theorem klX3_101 : Cond.methodLink RX3 101 yX3_readDigits ∈ zTb := (zTb_mem (zm_4 (List.mem_of_getElem? (i := 185) (by decide +kernel))) rfl)
theorem kvX3_101 : zCv RX3 101 yX3_readDigits cX3_readDigits 2 (some .int) 0 3 := ⟨⟨zc_X3_readDigits, zi_X3_readDigits, by decide, zd_X3_readDigits, (Or.inl klX3_101)⟩, zx_X3_readDigits, zv_X3_readDigits, rfl⟩
theorem zc_X3_areDigitsUpTo : Cond.code yX3_areDigitsUpTo cX3_areDigitsUpTo 4 (some .boolean) ∈ zTb := (zTb_mem (zm_4 (List.mem_of_getElem? (i := 213) (by decide +kernel))) rfl)
theorem zi_X3_areDigitsUpTo : Cond.initialized yX3_areDigitsUpTo.cls ∈ zTb := (zTb_mem (zm_1 (List.mem_of_getElem? (i := 3) (by decide +kernel))) rfl)
theorem zx_X3_areDigitsUpTo : Cond.instanceMethod yX3_areDigitsUpTo ∈ zTb := (zTb_mem (zm_4 (List.mem_of_getElem? (i := 212) (by decide +kernel))) rfl)
theorem zv_X3_areDigitsUpTo : Cond.selects yX3_areDigitsUpTo.cls yX3_areDigitsUpTo yX3_areDigitsUpTo ∈ zTb := zp_2 (List.mem_of_getElem? (i := 13) rfl)
theorem zd_X3_areDigitsUpTo : yX3_areDigitsUpTo.cls ≠ "java/lang/invoke/MethodHandle" ∧ yX3_areDigitsUpTo.cls ≠ "java/lang/invoke/VarHandle" ∧ (parseMethodDescriptor yX3_areDigitsUpTo.desc).map (fun d => d.parameters.length) = some 2 := by decide +kernel
theorem klX3_104 : Cond.methodLink RX3 104 yX3_areDigitsUpTo ∈ zTb := (zTb_mem (zm_4 (List.mem_of_getElem? (i := 210) (by decide +kernel))) rfl)
theorem kvX3_104 : zCv RX3 104 yX3_areDigitsUpTo cX3_areDigitsUpTo 4 (some .boolean) 2 3 := ⟨⟨zc_X3_areDigitsUpTo, zi_X3_areDigitsUpTo, by decide, zd_X3_areDigitsUpTo, (Or.inl klX3_104)⟩, zx_X3_areDigitsUpTo, zv_X3_areDigitsUpTo, rfl⟩
theorem zc_X7_makeKin : Cond.code yX7_makeKin cX7_makeKin 3 (none) ∈ zTb := (zTb_mem (zm_4 (List.mem_of_getElem? (i := 225) (by decide +kernel))) rfl)
theorem zi_X7_makeKin : Cond.initialized yX7_makeKin.cls ∈ zTb := (zTb_mem (zm_1 (List.mem_of_getElem? (i := 2) (by decide +kernel))) rfl)
theorem zx_X7_makeKin : Cond.instanceMethod yX7_makeKin ∈ zTb := (zTb_mem (zm_4 (List.mem_of_getElem? (i := 224) (by decide +kernel))) rfl)
theorem zv_X7_makeKin : Cond.selects yX7_makeKin.cls yX7_makeKin yX7_makeKin ∈ zTb := zp_3 (List.mem_of_getElem? (i := 0) rfl)
theorem zd_X7_makeKin : yX7_makeKin.cls ≠ "java/lang/invoke/MethodHandle" ∧ yX7_makeKin.cls ≠ "java/lang/invoke/VarHandle" ∧ (parseMethodDescriptor yX7_makeKin.desc).map (fun d => d.parameters.length) = some 2 := by decide +kernel
theorem kvX3_116 : zCv RX3 116 yX7_makeKin cX7_makeKin 3 (none) 2 7 := ⟨⟨zc_X7_makeKin, zi_X7_makeKin, by decide, zd_X7_makeKin, (Or.inr ⟨"TwoHandles", (List.mem_filter.mpr ⟨zm_4 (List.mem_of_getElem? (i := 222) (by decide +kernel)), rfl⟩)⟩)⟩, zx_X7_makeKin, zv_X7_makeKin, rfl⟩
theorem zc_X3_standsDigit : Cond.code yX3_standsDigit cX3_standsDigit 1 (some .boolean) ∈ zTb := (zTb_mem (zm_4 (List.mem_of_getElem? (i := 192) (by decide +kernel))) rfl)
theorem zi_X3_standsDigit : Cond.initialized yX3_standsDigit.cls ∈ zTb := (zTb_mem (zm_1 (List.mem_of_getElem? (i := 3) (by decide +kernel))) rfl)
theorem zx_X3_standsDigit : Cond.instanceMethod yX3_standsDigit ∈ zTb := (zTb_mem (zm_4 (List.mem_of_getElem? (i := 191) (by decide +kernel))) rfl)
theorem zv_X3_standsDigit : Cond.selects yX3_standsDigit.cls yX3_standsDigit yX3_standsDigit ∈ zTb := zp_2 (List.mem_of_getElem? (i := 8) rfl)
theorem zd_X3_standsDigit : yX3_standsDigit.cls ≠ "java/lang/invoke/MethodHandle" ∧ yX3_standsDigit.cls ≠ "java/lang/invoke/VarHandle" ∧ (parseMethodDescriptor yX3_standsDigit.desc).map (fun d => d.parameters.length) = some 0 := by decide +kernel
theorem klX3_132 : Cond.methodLink RX3 132 yX3_standsDigit ∈ zTb := (zTb_mem (zm_4 (List.mem_of_getElem? (i := 189) (by decide +kernel))) rfl)
theorem kvX3_132 : zCv RX3 132 yX3_standsDigit cX3_standsDigit 1 (some .boolean) 0 3 := ⟨⟨zc_X3_standsDigit, zi_X3_standsDigit, by decide, zd_X3_standsDigit, (Or.inl klX3_132)⟩, zx_X3_standsDigit, zv_X3_standsDigit, rfl⟩
theorem zc_X3_stands : Cond.code yX3_stands cX3_stands 4 (some .boolean) ∈ zTb := (zTb_mem (zm_4 (List.mem_of_getElem? (i := 144) (by decide +kernel))) rfl)
theorem zi_X3_stands : Cond.initialized yX3_stands.cls ∈ zTb := (zTb_mem (zm_1 (List.mem_of_getElem? (i := 3) (by decide +kernel))) rfl)
theorem zx_X3_stands : Cond.instanceMethod yX3_stands ∈ zTb := (zTb_mem (zm_4 (List.mem_of_getElem? (i := 143) (by decide +kernel))) rfl)
theorem zv_X3_stands : Cond.selects yX3_stands.cls yX3_stands yX3_stands ∈ zTb := zp_2 (List.mem_of_getElem? (i := 4) rfl)
theorem zd_X3_stands : yX3_stands.cls ≠ "java/lang/invoke/MethodHandle" ∧ yX3_stands.cls ≠ "java/lang/invoke/VarHandle" ∧ (parseMethodDescriptor yX3_stands.desc).map (fun d => d.parameters.length) = some 2 := by decide +kernel
theorem klX3_143 : Cond.methodLink RX3 143 yX3_stands ∈ zTb := (zTb_mem (zm_4 (List.mem_of_getElem? (i := 141) (by decide +kernel))) rfl)
theorem kvX3_143 : zCv RX3 143 yX3_stands cX3_stands 4 (some .boolean) 2 3 := ⟨⟨zc_X3_stands, zi_X3_stands, by decide, zd_X3_stands, (Or.inl klX3_143)⟩, zx_X3_stands, zv_X3_stands, rfl⟩
theorem klX4_52 : Cond.methodLink RX4 52 yJ6_bitCount_0f7a4 ∈ zTb := (zTb_mem (zm_6 (List.mem_of_getElem? (i := 185) (by decide +kernel))) rfl)
theorem ksX4_52 : zCs RX4 52 yJ6_bitCount_0f7a4 cJ6_bitCount_0f7a4 1 (some .int) 1 := ⟨⟨zc_J6_bitCount_0f7a4, zi_J6_bitCount_0f7a4, by decide, zd_J6_bitCount_0f7a4, (Or.inl klX4_52)⟩, zs_J6_bitCount_0f7a4⟩
theorem zc_X5_beginDay : Cond.code yX5_beginDay cX5_beginDay 2 (none) ∈ zTb := (zTb_mem (zm_5 (List.mem_of_getElem? (i := 6) (by decide +kernel))) rfl)
theorem zi_X5_beginDay : Cond.initialized yX5_beginDay.cls ∈ zTb := (zTb_mem (zm_1 (List.mem_of_getElem? (i := 4) (by decide +kernel))) rfl)
theorem zx_X5_beginDay : Cond.instanceMethod yX5_beginDay ∈ zTb := (zTb_mem (zm_5 (List.mem_of_getElem? (i := 5) (by decide +kernel))) rfl)
theorem zv_X5_beginDay : Cond.selects yX5_beginDay.cls yX5_beginDay yX5_beginDay ∈ zTb := zp_3 (List.mem_of_getElem? (i := 5) rfl)
theorem zd_X5_beginDay : yX5_beginDay.cls ≠ "java/lang/invoke/MethodHandle" ∧ yX5_beginDay.cls ≠ "java/lang/invoke/VarHandle" ∧ (parseMethodDescriptor yX5_beginDay.desc).map (fun d => d.parameters.length) = some 1 := by decide +kernel
theorem kvX4_61 : zCv RX4 61 yX5_beginDay cX5_beginDay 2 (none) 1 5 := ⟨⟨zc_X5_beginDay, zi_X5_beginDay, by decide, zd_X5_beginDay, (Or.inr ⟨"TwoHandles", (List.mem_filter.mpr ⟨zm_6 (List.mem_of_getElem? (i := 144) (by decide +kernel)), rfl⟩)⟩)⟩, zx_X5_beginDay, zv_X5_beginDay, rfl⟩
theorem zc_X4_drawQuestion : Cond.code yX4_drawQuestion cX4_drawQuestion 1 (some .int) ∈ zTb := (zTb_mem (zm_6 (List.mem_of_getElem? (i := 148) (by decide +kernel))) rfl)
theorem zi_X4_drawQuestion : Cond.initialized yX4_drawQuestion.cls ∈ zTb := (zTb_mem (zm_1 (List.mem_of_getElem? (i := 7) (by decide +kernel))) rfl)
theorem zx_X4_drawQuestion : Cond.instanceMethod yX4_drawQuestion ∈ zTb := (zTb_mem (zm_6 (List.mem_of_getElem? (i := 147) (by decide +kernel))) rfl)
theorem zv_X4_drawQuestion : Cond.selects yX4_drawQuestion.cls yX4_drawQuestion yX4_drawQuestion ∈ zTb := zp_5 (List.mem_of_getElem? (i := 8) rfl)
theorem zd_X4_drawQuestion : yX4_drawQuestion.cls ≠ "java/lang/invoke/MethodHandle" ∧ yX4_drawQuestion.cls ≠ "java/lang/invoke/VarHandle" ∧ (parseMethodDescriptor yX4_drawQuestion.desc).map (fun d => d.parameters.length) = some 0 := by decide +kernel
theorem klX4_65 : Cond.methodLink RX4 65 yX4_drawQuestion ∈ zTb := (zTb_mem (zm_6 (List.mem_of_getElem? (i := 145) (by decide +kernel))) rfl)
theorem kvX4_65 : zCv RX4 65 yX4_drawQuestion cX4_drawQuestion 1 (some .int) 0 4 := ⟨⟨zc_X4_drawQuestion, zi_X4_drawQuestion, by decide, zd_X4_drawQuestion, (Or.inl klX4_65)⟩, zx_X4_drawQuestion, zv_X4_drawQuestion, rfl⟩
theorem zc_X5_hasDoorInTime : Cond.code yX5_hasDoorInTime cX5_hasDoorInTime 2 (some .boolean) ∈ zTb := (zTb_mem (zm_6 (List.mem_of_getElem? (i := 153) (by decide +kernel))) rfl)
theorem zi_X5_hasDoorInTime : Cond.initialized yX5_hasDoorInTime.cls ∈ zTb := (zTb_mem (zm_1 (List.mem_of_getElem? (i := 4) (by decide +kernel))) rfl)
theorem zx_X5_hasDoorInTime : Cond.instanceMethod yX5_hasDoorInTime ∈ zTb := (zTb_mem (zm_6 (List.mem_of_getElem? (i := 152) (by decide +kernel))) rfl)
theorem zv_X5_hasDoorInTime : Cond.selects yX5_hasDoorInTime.cls yX5_hasDoorInTime yX5_hasDoorInTime ∈ zTb := zp_5 (List.mem_of_getElem? (i := 9) rfl)
theorem zd_X5_hasDoorInTime : yX5_hasDoorInTime.cls ≠ "java/lang/invoke/MethodHandle" ∧ yX5_hasDoorInTime.cls ≠ "java/lang/invoke/VarHandle" ∧ (parseMethodDescriptor yX5_hasDoorInTime.desc).map (fun d => d.parameters.length) = some 0 := by decide +kernel
theorem kvX4_72 : zCv RX4 72 yX5_hasDoorInTime cX5_hasDoorInTime 2 (some .boolean) 0 5 := ⟨⟨zc_X5_hasDoorInTime, zi_X5_hasDoorInTime, by decide, zd_X5_hasDoorInTime, (Or.inr ⟨"TwoHandles", (List.mem_filter.mpr ⟨zm_6 (List.mem_of_getElem? (i := 150) (by decide +kernel)), rfl⟩)⟩)⟩, zx_X5_hasDoorInTime, zv_X5_hasDoorInTime, rfl⟩
theorem zc_X4_workAllDay : Cond.code yX4_workAllDay cX4_workAllDay 3 (none) ∈ zTb := (zTb_mem (zm_6 (List.mem_of_getElem? (i := 157) (by decide +kernel))) rfl)
theorem zi_X4_workAllDay : Cond.initialized yX4_workAllDay.cls ∈ zTb := (zTb_mem (zm_1 (List.mem_of_getElem? (i := 7) (by decide +kernel))) rfl)
theorem zx_X4_workAllDay : Cond.instanceMethod yX4_workAllDay ∈ zTb := (zTb_mem (zm_6 (List.mem_of_getElem? (i := 156) (by decide +kernel))) rfl)
theorem zv_X4_workAllDay : Cond.selects yX4_workAllDay.cls yX4_workAllDay yX4_workAllDay ∈ zTb := zp_5 (List.mem_of_getElem? (i := 10) rfl)
theorem zd_X4_workAllDay : yX4_workAllDay.cls ≠ "java/lang/invoke/MethodHandle" ∧ yX4_workAllDay.cls ≠ "java/lang/invoke/VarHandle" ∧ (parseMethodDescriptor yX4_workAllDay.desc).map (fun d => d.parameters.length) = some 1 := by decide +kernel
theorem klX4_76 : Cond.methodLink RX4 76 yX4_workAllDay ∈ zTb := (zTb_mem (zm_6 (List.mem_of_getElem? (i := 154) (by decide +kernel))) rfl)
theorem kvX4_76 : zCv RX4 76 yX4_workAllDay cX4_workAllDay 3 (none) 1 4 := ⟨⟨zc_X4_workAllDay, zi_X4_workAllDay, by decide, zd_X4_workAllDay, (Or.inl klX4_76)⟩, zx_X4_workAllDay, zv_X4_workAllDay, rfl⟩
theorem zc_X4_pick : Cond.code yX4_pick cX4_pick 7 (none) ∈ zTb := (zTb_mem (zm_6 (List.mem_of_getElem? (i := 161) (by decide +kernel))) rfl)
theorem zi_X4_pick : Cond.initialized yX4_pick.cls ∈ zTb := (zTb_mem (zm_1 (List.mem_of_getElem? (i := 7) (by decide +kernel))) rfl)
theorem zx_X4_pick : Cond.instanceMethod yX4_pick ∈ zTb := (zTb_mem (zm_6 (List.mem_of_getElem? (i := 160) (by decide +kernel))) rfl)
theorem zv_X4_pick : Cond.selects yX4_pick.cls yX4_pick yX4_pick ∈ zTb := zp_5 (List.mem_of_getElem? (i := 11) rfl)
theorem zd_X4_pick : yX4_pick.cls ≠ "java/lang/invoke/MethodHandle" ∧ yX4_pick.cls ≠ "java/lang/invoke/VarHandle" ∧ (parseMethodDescriptor yX4_pick.desc).map (fun d => d.parameters.length) = some 1 := by decide +kernel
theorem klX4_88 : Cond.methodLink RX4 88 yX4_pick ∈ zTb := (zTb_mem (zm_6 (List.mem_of_getElem? (i := 158) (by decide +kernel))) rfl)
theorem kvX4_88 : zCv RX4 88 yX4_pick cX4_pick 7 (none) 1 4 := ⟨⟨zc_X4_pick, zi_X4_pick, by decide, zd_X4_pick, (Or.inl klX4_88)⟩, zx_X4_pick, zv_X4_pick, rfl⟩
theorem zc_X5_doWork : Cond.code yX5_doWork cX5_doWork 10 (some .int) ∈ zTb := (zTb_mem (zm_5 (List.mem_of_getElem? (i := 123) (by decide +kernel))) rfl)
theorem zi_X5_doWork : Cond.initialized yX5_doWork.cls ∈ zTb := (zTb_mem (zm_1 (List.mem_of_getElem? (i := 4) (by decide +kernel))) rfl)
theorem zx_X5_doWork : Cond.instanceMethod yX5_doWork ∈ zTb := (zTb_mem (zm_5 (List.mem_of_getElem? (i := 122) (by decide +kernel))) rfl)
theorem zv_X5_doWork : Cond.selects yX5_doWork.cls yX5_doWork yX5_doWork ∈ zTb := zp_3 (List.mem_of_getElem? (i := 14) rfl)
theorem zd_X5_doWork : yX5_doWork.cls ≠ "java/lang/invoke/MethodHandle" ∧ yX5_doWork.cls ≠ "java/lang/invoke/VarHandle" ∧ (parseMethodDescriptor yX5_doWork.desc).map (fun d => d.parameters.length) = some 3 := by decide +kernel
theorem kvX4_91 : zCv RX4 91 yX5_doWork cX5_doWork 10 (some .int) 3 5 := ⟨⟨zc_X5_doWork, zi_X5_doWork, by decide, zd_X5_doWork, (Or.inr ⟨"TwoHandles", (List.mem_filter.mpr ⟨zm_6 (List.mem_of_getElem? (i := 179) (by decide +kernel)), rfl⟩)⟩)⟩, zx_X5_doWork, zv_X5_doWork, rfl⟩
theorem zc_X8_workCode : Cond.code yX8_workCode cX8_workCode 3 (some .int) ∈ zTb := (zTb_mem (zm_5 (List.mem_of_getElem? (i := 208) (by decide +kernel))) rfl)
theorem zi_X8_workCode : Cond.initialized yX8_workCode.cls ∈ zTb := (zTb_mem (zm_1 (List.mem_of_getElem? (i := 1) (by decide +kernel))) rfl)
theorem zs_X8_workCode : Cond.static yX8_workCode ∈ zTb := (zTb_mem (zm_5 (List.mem_of_getElem? (i := 207) (by decide +kernel))) rfl)
theorem zd_X8_workCode : yX8_workCode.cls ≠ "java/lang/invoke/MethodHandle" ∧ yX8_workCode.cls ≠ "java/lang/invoke/VarHandle" ∧ (parseMethodDescriptor yX8_workCode.desc).map (fun d => d.parameters.length) = some 3 := by decide +kernel
theorem ksX4_98 : zCs RX4 98 yX8_workCode cX8_workCode 3 (some .int) 3 := ⟨⟨zc_X8_workCode, zi_X8_workCode, by decide, zd_X8_workCode, (Or.inr ⟨"TwoHandles", (List.mem_filter.mpr ⟨zm_6 (List.mem_of_getElem? (i := 180) (by decide +kernel)), rfl⟩)⟩)⟩, zs_X8_workCode⟩
theorem kvX4_101 : zCv RX4 101 yX5_isOpen cX5_isOpen 2 (some .boolean) 1 5 := ⟨⟨zc_X5_isOpen, zi_X5_isOpen, by decide, zd_X5_isOpen, (Or.inr ⟨"TwoHandles", (List.mem_filter.mpr ⟨zm_6 (List.mem_of_getElem? (i := 162) (by decide +kernel)), rfl⟩)⟩)⟩, zx_X5_isOpen, zv_X5_isOpen, rfl⟩
theorem kvX4_105 : zCv RX4 105 yX5_isTooLate cX5_isTooLate 2 (some .boolean) 1 5 := ⟨⟨zc_X5_isTooLate, zi_X5_isTooLate, by decide, zd_X5_isTooLate, (Or.inr ⟨"TwoHandles", (List.mem_filter.mpr ⟨zm_6 (List.mem_of_getElem? (i := 163) (by decide +kernel)), rfl⟩)⟩)⟩, zx_X5_isTooLate, zv_X5_isTooLate, rfl⟩
theorem kvX4_111 : zCv RX4 111 yX5_errs cX5_errs 4 (some .int) 3 5 := ⟨⟨zc_X5_errs, zi_X5_errs, by decide, zd_X5_errs, (Or.inr ⟨"TwoHandles", (List.mem_filter.mpr ⟨zm_6 (List.mem_of_getElem? (i := 164) (by decide +kernel)), rfl⟩)⟩)⟩, zx_X5_errs, zv_X5_errs, rfl⟩
theorem zc_X4_scoreOf : Cond.code yX4_scoreOf cX4_scoreOf 5 (some .int) ∈ zTb := (zTb_mem (zm_6 (List.mem_of_getElem? (i := 168) (by decide +kernel))) rfl)
theorem zi_X4_scoreOf : Cond.initialized yX4_scoreOf.cls ∈ zTb := (zTb_mem (zm_1 (List.mem_of_getElem? (i := 7) (by decide +kernel))) rfl)
theorem zx_X4_scoreOf : Cond.instanceMethod yX4_scoreOf ∈ zTb := (zTb_mem (zm_6 (List.mem_of_getElem? (i := 167) (by decide +kernel))) rfl)
theorem zv_X4_scoreOf : Cond.selects yX4_scoreOf.cls yX4_scoreOf yX4_scoreOf ∈ zTb := zp_5 (List.mem_of_getElem? (i := 12) rfl)
theorem zd_X4_scoreOf : yX4_scoreOf.cls ≠ "java/lang/invoke/MethodHandle" ∧ yX4_scoreOf.cls ≠ "java/lang/invoke/VarHandle" ∧ (parseMethodDescriptor yX4_scoreOf.desc).map (fun d => d.parameters.length) = some 4 := by decide +kernel
theorem klX4_114 : Cond.methodLink RX4 114 yX4_scoreOf ∈ zTb := (zTb_mem (zm_6 (List.mem_of_getElem? (i := 165) (by decide +kernel))) rfl)
theorem kvX4_114 : zCv RX4 114 yX4_scoreOf cX4_scoreOf 5 (some .int) 4 4 := ⟨⟨zc_X4_scoreOf, zi_X4_scoreOf, by decide, zd_X4_scoreOf, (Or.inl klX4_114)⟩, zx_X4_scoreOf, zv_X4_scoreOf, rfl⟩
theorem zc_X4_isBetter : Cond.code yX4_isBetter cX4_isBetter 7 (some .boolean) ∈ zTb := (zTb_mem (zm_6 (List.mem_of_getElem? (i := 174) (by decide +kernel))) rfl)
theorem zi_X4_isBetter : Cond.initialized yX4_isBetter.cls ∈ zTb := (zTb_mem (zm_1 (List.mem_of_getElem? (i := 7) (by decide +kernel))) rfl)
theorem zx_X4_isBetter : Cond.instanceMethod yX4_isBetter ∈ zTb := (zTb_mem (zm_6 (List.mem_of_getElem? (i := 173) (by decide +kernel))) rfl)
theorem zv_X4_isBetter : Cond.selects yX4_isBetter.cls yX4_isBetter yX4_isBetter ∈ zTb := zp_5 (List.mem_of_getElem? (i := 13) rfl)
theorem zd_X4_isBetter : yX4_isBetter.cls ≠ "java/lang/invoke/MethodHandle" ∧ yX4_isBetter.cls ≠ "java/lang/invoke/VarHandle" ∧ (parseMethodDescriptor yX4_isBetter.desc).map (fun d => d.parameters.length) = some 3 := by decide +kernel
theorem klX4_118 : Cond.methodLink RX4 118 yX4_isBetter ∈ zTb := (zTb_mem (zm_6 (List.mem_of_getElem? (i := 171) (by decide +kernel))) rfl)
theorem kvX4_118 : zCv RX4 118 yX4_isBetter cX4_isBetter 7 (some .boolean) 3 4 := ⟨⟨zc_X4_isBetter, zi_X4_isBetter, by decide, zd_X4_isBetter, (Or.inl klX4_118)⟩, zx_X4_isBetter, zv_X4_isBetter, rfl⟩
theorem zc_X4_keep : Cond.code yX4_keep cX4_keep 5 (none) ∈ zTb := (zTb_mem (zm_6 (List.mem_of_getElem? (i := 178) (by decide +kernel))) rfl)
theorem zi_X4_keep : Cond.initialized yX4_keep.cls ∈ zTb := (zTb_mem (zm_1 (List.mem_of_getElem? (i := 7) (by decide +kernel))) rfl)
theorem zx_X4_keep : Cond.instanceMethod yX4_keep ∈ zTb := (zTb_mem (zm_6 (List.mem_of_getElem? (i := 177) (by decide +kernel))) rfl)
theorem zv_X4_keep : Cond.selects yX4_keep.cls yX4_keep yX4_keep ∈ zTb := zp_5 (List.mem_of_getElem? (i := 14) rfl)
theorem zd_X4_keep : yX4_keep.cls ≠ "java/lang/invoke/MethodHandle" ∧ yX4_keep.cls ≠ "java/lang/invoke/VarHandle" ∧ (parseMethodDescriptor yX4_keep.desc).map (fun d => d.parameters.length) = some 4 := by decide +kernel
theorem klX4_122 : Cond.methodLink RX4 122 yX4_keep ∈ zTb := (zTb_mem (zm_6 (List.mem_of_getElem? (i := 175) (by decide +kernel))) rfl)
theorem kvX4_122 : zCv RX4 122 yX4_keep cX4_keep 5 (none) 4 4 := ⟨⟨zc_X4_keep, zi_X4_keep, by decide, zd_X4_keep, (Or.inl klX4_122)⟩, zx_X4_keep, zv_X4_keep, rfl⟩
theorem zc_X5_questionOf : Cond.code yX5_questionOf cX5_questionOf 2 (some .int) ∈ zTb := (zTb_mem (zm_4 (List.mem_of_getElem? (i := 66) (by decide +kernel))) rfl)
theorem zi_X5_questionOf : Cond.initialized yX5_questionOf.cls ∈ zTb := (zTb_mem (zm_1 (List.mem_of_getElem? (i := 4) (by decide +kernel))) rfl)
theorem zx_X5_questionOf : Cond.instanceMethod yX5_questionOf ∈ zTb := (zTb_mem (zm_4 (List.mem_of_getElem? (i := 65) (by decide +kernel))) rfl)
theorem zv_X5_questionOf : Cond.selects yX5_questionOf.cls yX5_questionOf yX5_questionOf ∈ zTb := zp_1 (List.mem_of_getElem? (i := 10) rfl)
theorem zd_X5_questionOf : yX5_questionOf.cls ≠ "java/lang/invoke/MethodHandle" ∧ yX5_questionOf.cls ≠ "java/lang/invoke/VarHandle" ∧ (parseMethodDescriptor yX5_questionOf.desc).map (fun d => d.parameters.length) = some 1 := by decide +kernel
theorem kvX4_126 : zCv RX4 126 yX5_questionOf cX5_questionOf 2 (some .int) 1 5 := ⟨⟨zc_X5_questionOf, zi_X5_questionOf, by decide, zd_X5_questionOf, (Or.inr ⟨"TwoHandles", (List.mem_filter.mpr ⟨zm_6 (List.mem_of_getElem? (i := 169) (by decide +kernel)), rfl⟩)⟩)⟩, zx_X5_questionOf, zv_X5_questionOf, rfl⟩
theorem zc_X5_apart : Cond.code yX5_apart cX5_apart 5 (some .int) ∈ zTb := (zTb_mem (zm_4 (List.mem_of_getElem? (i := 70) (by decide +kernel))) rfl)
theorem zi_X5_apart : Cond.initialized yX5_apart.cls ∈ zTb := (zTb_mem (zm_1 (List.mem_of_getElem? (i := 4) (by decide +kernel))) rfl)
theorem zx_X5_apart : Cond.instanceMethod yX5_apart ∈ zTb := (zTb_mem (zm_4 (List.mem_of_getElem? (i := 69) (by decide +kernel))) rfl)
theorem zv_X5_apart : Cond.selects yX5_apart.cls yX5_apart yX5_apart ∈ zTb := zp_1 (List.mem_of_getElem? (i := 11) rfl)
theorem zd_X5_apart : yX5_apart.cls ≠ "java/lang/invoke/MethodHandle" ∧ yX5_apart.cls ≠ "java/lang/invoke/VarHandle" ∧ (parseMethodDescriptor yX5_apart.desc).map (fun d => d.parameters.length) = some 3 := by decide +kernel
theorem kvX4_129 : zCv RX4 129 yX5_apart cX5_apart 5 (some .int) 3 5 := ⟨⟨zc_X5_apart, zi_X5_apart, by decide, zd_X5_apart, (Or.inr ⟨"TwoHandles", (List.mem_filter.mpr ⟨zm_6 (List.mem_of_getElem? (i := 170) (by decide +kernel)), rfl⟩)⟩)⟩, zx_X5_apart, zv_X5_apart, rfl⟩
theorem klX5_59 : Cond.methodLink RX5 59 yX5_beginDay ∈ zTb := (zTb_mem (zm_5 (List.mem_of_getElem? (i := 3) (by decide +kernel))) rfl)
theorem kvX5_59 : zCv RX5 59 yX5_beginDay cX5_beginDay 2 (none) 1 5 := ⟨⟨zc_X5_beginDay, zi_X5_beginDay, by decide, zd_X5_beginDay, (Or.inl klX5_59)⟩, zx_X5_beginDay, zv_X5_beginDay, rfl⟩
theorem zc_X7_slateOf : Cond.code yX7_slateOf cX7_slateOf 2 (some .int) ∈ zTb := (zTb_mem (zm_5 (List.mem_of_getElem? (i := 10) (by decide +kernel))) rfl)
theorem zi_X7_slateOf : Cond.initialized yX7_slateOf.cls ∈ zTb := (zTb_mem (zm_1 (List.mem_of_getElem? (i := 2) (by decide +kernel))) rfl)
theorem zx_X7_slateOf : Cond.instanceMethod yX7_slateOf ∈ zTb := (zTb_mem (zm_5 (List.mem_of_getElem? (i := 9) (by decide +kernel))) rfl)
theorem zv_X7_slateOf : Cond.selects yX7_slateOf.cls yX7_slateOf yX7_slateOf ∈ zTb := zp_3 (List.mem_of_getElem? (i := 6) rfl)
theorem zd_X7_slateOf : yX7_slateOf.cls ≠ "java/lang/invoke/MethodHandle" ∧ yX7_slateOf.cls ≠ "java/lang/invoke/VarHandle" ∧ (parseMethodDescriptor yX7_slateOf.desc).map (fun d => d.parameters.length) = some 1 := by decide +kernel
theorem kvX5_63 : zCv RX5 63 yX7_slateOf cX7_slateOf 2 (some .int) 1 7 := ⟨⟨zc_X7_slateOf, zi_X7_slateOf, by decide, zd_X7_slateOf, (Or.inr ⟨"TwoHandles", (List.mem_filter.mpr ⟨zm_5 (List.mem_of_getElem? (i := 7) (by decide +kernel)), rfl⟩)⟩)⟩, zx_X7_slateOf, zv_X7_slateOf, rfl⟩
theorem klX5_70 : Cond.methodLink RX5 70 yJ7_fill_53178 ∈ zTb := (zTb_mem (zm_5 (List.mem_of_getElem? (i := 11) (by decide +kernel))) rfl)
theorem ksX5_70 : zCs RX5 70 yJ7_fill_53178 cJ7_fill_53178 4 (none) 2 := ⟨⟨zc_J7_fill_53178, zi_J7_fill_53178, by decide, zd_J7_fill_53178, (Or.inl klX5_70)⟩, zs_J7_fill_53178⟩
theorem zc_X5_putThought : Cond.code yX5_putThought cX5_putThought 4 (none) ∈ zTb := (zTb_mem (zm_5 (List.mem_of_getElem? (i := 131) (by decide +kernel))) rfl)
theorem zi_X5_putThought : Cond.initialized yX5_putThought.cls ∈ zTb := (zTb_mem (zm_1 (List.mem_of_getElem? (i := 4) (by decide +kernel))) rfl)
theorem zx_X5_putThought : Cond.instanceMethod yX5_putThought ∈ zTb := (zTb_mem (zm_5 (List.mem_of_getElem? (i := 130) (by decide +kernel))) rfl)
theorem zv_X5_putThought : Cond.selects yX5_putThought.cls yX5_putThought yX5_putThought ∈ zTb := zp_3 (List.mem_of_getElem? (i := 15) rfl)
theorem zd_X5_putThought : yX5_putThought.cls ≠ "java/lang/invoke/MethodHandle" ∧ yX5_putThought.cls ≠ "java/lang/invoke/VarHandle" ∧ (parseMethodDescriptor yX5_putThought.desc).map (fun d => d.parameters.length) = some 3 := by decide +kernel
theorem klX5_79 : Cond.methodLink RX5 79 yX5_putThought ∈ zTb := (zTb_mem (zm_5 (List.mem_of_getElem? (i := 128) (by decide +kernel))) rfl)
theorem kvX5_79 : zCv RX5 79 yX5_putThought cX5_putThought 4 (none) 3 5 := ⟨⟨zc_X5_putThought, zi_X5_putThought, by decide, zd_X5_putThought, (Or.inl klX5_79)⟩, zx_X5_putThought, zv_X5_putThought, rfl⟩
theorem kvX5_88 : zCv RX5 88 yX7_areKin cX7_areKin 3 (some .boolean) 2 7 := ⟨⟨zc_X7_areKin, zi_X7_areKin, by decide, zd_X7_areKin, (Or.inr ⟨"TwoHandles", (List.mem_filter.mpr ⟨zm_4 (List.mem_of_getElem? (i := 58) (by decide +kernel)), rfl⟩)⟩)⟩, zx_X7_areKin, zv_X7_areKin, rfl⟩
theorem klX5_92 : Cond.methodLink RX5 92 yX5_apart ∈ zTb := (zTb_mem (zm_4 (List.mem_of_getElem? (i := 67) (by decide +kernel))) rfl)
theorem kvX5_92 : zCv RX5 92 yX5_apart cX5_apart 5 (some .int) 3 5 := ⟨⟨zc_X5_apart, zi_X5_apart, by decide, zd_X5_apart, (Or.inl klX5_92)⟩, zx_X5_apart, zv_X5_apart, rfl⟩
theorem klX5_96 : Cond.methodLink RX5 96 yX5_thought ∈ zTb := (zTb_mem (zm_5 (List.mem_of_getElem? (i := 124) (by decide +kernel))) rfl)
theorem kvX5_96 : zCv RX5 96 yX5_thought cX5_thought 3 (some .int) 2 5 := ⟨⟨zc_X5_thought, zi_X5_thought, by decide, zd_X5_thought, (Or.inl klX5_96)⟩, zx_X5_thought, zv_X5_thought, rfl⟩
theorem zc_J6_compare_7cf53 : Cond.code yJ6_compare_7cf53 cJ6_compare_7cf53 2 (some .int) ∈ zTb := (zTb_mem (zm_5 (List.mem_of_getElem? (i := 186) (by decide +kernel))) rfl)
theorem zi_J6_compare_7cf53 : Cond.initialized yJ6_compare_7cf53.cls ∈ zTb := (zTb_mem (zm_1 (List.mem_of_getElem? (i := 22) (by decide +kernel))) rfl)
theorem zs_J6_compare_7cf53 : Cond.static yJ6_compare_7cf53 ∈ zTb := (zTb_mem (zm_5 (List.mem_of_getElem? (i := 185) (by decide +kernel))) rfl)
theorem zd_J6_compare_7cf53 : yJ6_compare_7cf53.cls ≠ "java/lang/invoke/MethodHandle" ∧ yJ6_compare_7cf53.cls ≠ "java/lang/invoke/VarHandle" ∧ (parseMethodDescriptor yJ6_compare_7cf53.desc).map (fun d => d.parameters.length) = some 2 := by decide +kernel
theorem klX5_100 : Cond.methodLink RX5 100 yJ6_compare_7cf53 ∈ zTb := (zTb_mem (zm_5 (List.mem_of_getElem? (i := 184) (by decide +kernel))) rfl)
theorem ksX5_100 : zCs RX5 100 yJ6_compare_7cf53 cJ6_compare_7cf53 2 (some .int) 2 := ⟨⟨zc_J6_compare_7cf53, zi_J6_compare_7cf53, by decide, zd_J6_compare_7cf53, (Or.inl klX5_100)⟩, zs_J6_compare_7cf53⟩
theorem zc_X5_stepTo : Cond.code yX5_stepTo cX5_stepTo 4 (some .int) ∈ zTb := (zTb_mem (zm_5 (List.mem_of_getElem? (i := 183) (by decide +kernel))) rfl)
theorem zi_X5_stepTo : Cond.initialized yX5_stepTo.cls ∈ zTb := (zTb_mem (zm_1 (List.mem_of_getElem? (i := 4) (by decide +kernel))) rfl)
theorem zx_X5_stepTo : Cond.instanceMethod yX5_stepTo ∈ zTb := (zTb_mem (zm_5 (List.mem_of_getElem? (i := 182) (by decide +kernel))) rfl)
theorem zv_X5_stepTo : Cond.selects yX5_stepTo.cls yX5_stepTo yX5_stepTo ∈ zTb := zp_4 (List.mem_of_getElem? (i := 1) rfl)
theorem zd_X5_stepTo : yX5_stepTo.cls ≠ "java/lang/invoke/MethodHandle" ∧ yX5_stepTo.cls ≠ "java/lang/invoke/VarHandle" ∧ (parseMethodDescriptor yX5_stepTo.desc).map (fun d => d.parameters.length) = some 3 := by decide +kernel
theorem klX5_105 : Cond.methodLink RX5 105 yX5_stepTo ∈ zTb := (zTb_mem (zm_5 (List.mem_of_getElem? (i := 180) (by decide +kernel))) rfl)
theorem kvX5_105 : zCv RX5 105 yX5_stepTo cX5_stepTo 4 (some .int) 3 5 := ⟨⟨zc_X5_stepTo, zi_X5_stepTo, by decide, zd_X5_stepTo, (Or.inl klX5_105)⟩, zx_X5_stepTo, zv_X5_stepTo, rfl⟩
theorem klX5_114 : Cond.methodLink RX5 114 yX5_isOpen ∈ zTb := (zTb_mem (zm_4 (List.mem_of_getElem? (i := 56) (by decide +kernel))) rfl)
theorem kvX5_114 : zCv RX5 114 yX5_isOpen cX5_isOpen 2 (some .boolean) 1 5 := ⟨⟨zc_X5_isOpen, zi_X5_isOpen, by decide, zd_X5_isOpen, (Or.inl klX5_114)⟩, zx_X5_isOpen, zv_X5_isOpen, rfl⟩
theorem klX5_118 : Cond.methodLink RX5 118 yX5_isTooLate ∈ zTb := (zTb_mem (zm_4 (List.mem_of_getElem? (i := 57) (by decide +kernel))) rfl)
theorem kvX5_118 : zCv RX5 118 yX5_isTooLate cX5_isTooLate 2 (some .boolean) 1 5 := ⟨⟨zc_X5_isTooLate, zi_X5_isTooLate, by decide, zd_X5_isTooLate, (Or.inl klX5_118)⟩, zx_X5_isTooLate, zv_X5_isTooLate, rfl⟩
theorem klX5_127 : Cond.methodLink RX5 127 yX5_questionOf ∈ zTb := (zTb_mem (zm_4 (List.mem_of_getElem? (i := 63) (by decide +kernel))) rfl)
theorem kvX5_127 : zCv RX5 127 yX5_questionOf cX5_questionOf 2 (some .int) 1 5 := ⟨⟨zc_X5_questionOf, zi_X5_questionOf, by decide, zd_X5_questionOf, (Or.inl klX5_127)⟩, zx_X5_questionOf, zv_X5_questionOf, rfl⟩
theorem ksX5_130 : zCs RX5 130 yX8_lesserBehind cX8_lesserBehind 6 (some .int) 4 := ⟨⟨zc_X8_lesserBehind, zi_X8_lesserBehind, by decide, zd_X8_lesserBehind, (Or.inr ⟨"TwoHandles", (List.mem_filter.mpr ⟨zm_5 (List.mem_of_getElem? (i := 125) (by decide +kernel)), rfl⟩)⟩)⟩, zs_X8_lesserBehind⟩
theorem ksX5_134 : zCs RX5 134 yX8_greaterBehind cX8_greaterBehind 4 (some .int) 4 := ⟨⟨zc_X8_greaterBehind, zi_X8_greaterBehind, by decide, zd_X8_greaterBehind, (Or.inr ⟨"TwoHandles", (List.mem_filter.mpr ⟨zm_5 (List.mem_of_getElem? (i := 132) (by decide +kernel)), rfl⟩)⟩)⟩, zs_X8_greaterBehind⟩
theorem klX5_137 : Cond.methodLink RX5 137 yX5_errs ∈ zTb := (zTb_mem (zm_6 (List.mem_of_getElem? (i := 101) (by decide +kernel))) rfl)
theorem kvX5_137 : zCv RX5 137 yX5_errs cX5_errs 4 (some .int) 3 5 := ⟨⟨zc_X5_errs, zi_X5_errs, by decide, zd_X5_errs, (Or.inl klX5_137)⟩, zx_X5_errs, zv_X5_errs, rfl⟩
theorem zc_X6_forget : Cond.code yX6_forget cX6_forget 1 (none) ∈ zTb := (zTb_mem (zm_6 (List.mem_of_getElem? (i := 91) (by decide +kernel))) rfl)
theorem zi_X6_forget : Cond.initialized yX6_forget.cls ∈ zTb := (zTb_mem (zm_1 (List.mem_of_getElem? (i := 8) (by decide +kernel))) rfl)
theorem zx_X6_forget : Cond.instanceMethod yX6_forget ∈ zTb := (zTb_mem (zm_6 (List.mem_of_getElem? (i := 90) (by decide +kernel))) rfl)
theorem zv_X6_forget : Cond.selects yX6_forget.cls yX6_forget yX6_forget ∈ zTb := zp_4 (List.mem_of_getElem? (i := 14) rfl)
theorem zd_X6_forget : yX6_forget.cls ≠ "java/lang/invoke/MethodHandle" ∧ yX6_forget.cls ≠ "java/lang/invoke/VarHandle" ∧ (parseMethodDescriptor yX6_forget.desc).map (fun d => d.parameters.length) = some 0 := by decide +kernel
theorem klX6_37 : Cond.methodLink RX6 37 yX6_forget ∈ zTb := (zTb_mem (zm_6 (List.mem_of_getElem? (i := 88) (by decide +kernel))) rfl)
theorem kvX6_37 : zCv RX6 37 yX6_forget cX6_forget 1 (none) 0 6 := ⟨⟨zc_X6_forget, zi_X6_forget, by decide, zd_X6_forget, (Or.inl klX6_37)⟩, zx_X6_forget, zv_X6_forget, rfl⟩
theorem zc_X5_copyWorld : Cond.code yX5_copyWorld cX5_copyWorld 2 (none) ∈ zTb := (zTb_mem (zm_2 (List.mem_of_getElem? (i := 170) (by decide +kernel))) rfl)
theorem zi_X5_copyWorld : Cond.initialized yX5_copyWorld.cls ∈ zTb := (zTb_mem (zm_1 (List.mem_of_getElem? (i := 4) (by decide +kernel))) rfl)
theorem zx_X5_copyWorld : Cond.instanceMethod yX5_copyWorld ∈ zTb := (zTb_mem (zm_2 (List.mem_of_getElem? (i := 169) (by decide +kernel))) rfl)
theorem zv_X5_copyWorld : Cond.selects yX5_copyWorld.cls yX5_copyWorld yX5_copyWorld ∈ zTb := zp_1 (List.mem_of_getElem? (i := 2) rfl)
theorem zd_X5_copyWorld : yX5_copyWorld.cls ≠ "java/lang/invoke/MethodHandle" ∧ yX5_copyWorld.cls ≠ "java/lang/invoke/VarHandle" ∧ (parseMethodDescriptor yX5_copyWorld.desc).map (fun d => d.parameters.length) = some 1 := by decide +kernel
theorem kvX6_40 : zCv RX6 40 yX5_copyWorld cX5_copyWorld 2 (none) 1 5 := ⟨⟨zc_X5_copyWorld, zi_X5_copyWorld, by decide, zd_X5_copyWorld, (Or.inr ⟨"TwoHandles", (List.mem_filter.mpr ⟨zm_6 (List.mem_of_getElem? (i := 92) (by decide +kernel)), rfl⟩)⟩)⟩, zx_X5_copyWorld, zv_X5_copyWorld, rfl⟩
theorem zc_X6_seekFirst : Cond.code yX6_seekFirst cX6_seekFirst 3 (none) ∈ zTb := (zTb_mem (zm_6 (List.mem_of_getElem? (i := 96) (by decide +kernel))) rfl)
theorem zi_X6_seekFirst : Cond.initialized yX6_seekFirst.cls ∈ zTb := (zTb_mem (zm_1 (List.mem_of_getElem? (i := 8) (by decide +kernel))) rfl)
theorem zx_X6_seekFirst : Cond.instanceMethod yX6_seekFirst ∈ zTb := (zTb_mem (zm_6 (List.mem_of_getElem? (i := 95) (by decide +kernel))) rfl)
theorem zv_X6_seekFirst : Cond.selects yX6_seekFirst.cls yX6_seekFirst yX6_seekFirst ∈ zTb := zp_4 (List.mem_of_getElem? (i := 15) rfl)
theorem zd_X6_seekFirst : yX6_seekFirst.cls ≠ "java/lang/invoke/MethodHandle" ∧ yX6_seekFirst.cls ≠ "java/lang/invoke/VarHandle" ∧ (parseMethodDescriptor yX6_seekFirst.desc).map (fun d => d.parameters.length) = some 0 := by decide +kernel
theorem klX6_44 : Cond.methodLink RX6 44 yX6_seekFirst ∈ zTb := (zTb_mem (zm_6 (List.mem_of_getElem? (i := 93) (by decide +kernel))) rfl)
theorem kvX6_44 : zCv RX6 44 yX6_seekFirst cX6_seekFirst 3 (none) 0 6 := ⟨⟨zc_X6_seekFirst, zi_X6_seekFirst, by decide, zd_X6_seekFirst, (Or.inl klX6_44)⟩, zx_X6_seekFirst, zv_X6_seekFirst, rfl⟩
theorem zc_X6_seekTwo : Cond.code yX6_seekTwo cX6_seekTwo 5 (none) ∈ zTb := (zTb_mem (zm_6 (List.mem_of_getElem? (i := 105) (by decide +kernel))) rfl)
theorem zi_X6_seekTwo : Cond.initialized yX6_seekTwo.cls ∈ zTb := (zTb_mem (zm_1 (List.mem_of_getElem? (i := 8) (by decide +kernel))) rfl)
theorem zx_X6_seekTwo : Cond.instanceMethod yX6_seekTwo ∈ zTb := (zTb_mem (zm_6 (List.mem_of_getElem? (i := 104) (by decide +kernel))) rfl)
theorem zv_X6_seekTwo : Cond.selects yX6_seekTwo.cls yX6_seekTwo yX6_seekTwo ∈ zTb := zp_5 (List.mem_of_getElem? (i := 1) rfl)
theorem zd_X6_seekTwo : yX6_seekTwo.cls ≠ "java/lang/invoke/MethodHandle" ∧ yX6_seekTwo.cls ≠ "java/lang/invoke/VarHandle" ∧ (parseMethodDescriptor yX6_seekTwo.desc).map (fun d => d.parameters.length) = some 1 := by decide +kernel
theorem klX6_47 : Cond.methodLink RX6 47 yX6_seekTwo ∈ zTb := (zTb_mem (zm_6 (List.mem_of_getElem? (i := 102) (by decide +kernel))) rfl)
theorem kvX6_47 : zCv RX6 47 yX6_seekTwo cX6_seekTwo 5 (none) 1 6 := ⟨⟨zc_X6_seekTwo, zi_X6_seekTwo, by decide, zd_X6_seekTwo, (Or.inl klX6_47)⟩, zx_X6_seekTwo, zv_X6_seekTwo, rfl⟩
theorem kvX6_54 : zCv RX6 54 yX5_beginDay cX5_beginDay 2 (none) 1 5 := ⟨⟨zc_X5_beginDay, zi_X5_beginDay, by decide, zd_X5_beginDay, (Or.inr ⟨"TwoHandles", (List.mem_filter.mpr ⟨zm_6 (List.mem_of_getElem? (i := 112) (by decide +kernel)), rfl⟩)⟩)⟩, zx_X5_beginDay, zv_X5_beginDay, rfl⟩
theorem zc_X6_seekSecond : Cond.code yX6_seekSecond cX6_seekSecond 5 (none) ∈ zTb := (zTb_mem (zm_6 (List.mem_of_getElem? (i := 117) (by decide +kernel))) rfl)
theorem zi_X6_seekSecond : Cond.initialized yX6_seekSecond.cls ∈ zTb := (zTb_mem (zm_1 (List.mem_of_getElem? (i := 8) (by decide +kernel))) rfl)
theorem zx_X6_seekSecond : Cond.instanceMethod yX6_seekSecond ∈ zTb := (zTb_mem (zm_6 (List.mem_of_getElem? (i := 116) (by decide +kernel))) rfl)
theorem zv_X6_seekSecond : Cond.selects yX6_seekSecond.cls yX6_seekSecond yX6_seekSecond ∈ zTb := zp_5 (List.mem_of_getElem? (i := 3) rfl)
theorem zd_X6_seekSecond : yX6_seekSecond.cls ≠ "java/lang/invoke/MethodHandle" ∧ yX6_seekSecond.cls ≠ "java/lang/invoke/VarHandle" ∧ (parseMethodDescriptor yX6_seekSecond.desc).map (fun d => d.parameters.length) = some 1 := by decide +kernel
theorem klX6_58 : Cond.methodLink RX6 58 yX6_seekSecond ∈ zTb := (zTb_mem (zm_6 (List.mem_of_getElem? (i := 114) (by decide +kernel))) rfl)
theorem kvX6_58 : zCv RX6 58 yX6_seekSecond cX6_seekSecond 5 (none) 1 6 := ⟨⟨zc_X6_seekSecond, zi_X6_seekSecond, by decide, zd_X6_seekSecond, (Or.inl klX6_58)⟩, zx_X6_seekSecond, zv_X6_seekSecond, rfl⟩
theorem zc_X5_firstTwo : Cond.code yX5_firstTwo cX5_firstTwo 4 (some .int) ∈ zTb := (zTb_mem (zm_6 (List.mem_of_getElem? (i := 100) (by decide +kernel))) rfl)
theorem zi_X5_firstTwo : Cond.initialized yX5_firstTwo.cls ∈ zTb := (zTb_mem (zm_1 (List.mem_of_getElem? (i := 4) (by decide +kernel))) rfl)
theorem zx_X5_firstTwo : Cond.instanceMethod yX5_firstTwo ∈ zTb := (zTb_mem (zm_6 (List.mem_of_getElem? (i := 99) (by decide +kernel))) rfl)
theorem zv_X5_firstTwo : Cond.selects yX5_firstTwo.cls yX5_firstTwo yX5_firstTwo ∈ zTb := zp_5 (List.mem_of_getElem? (i := 0) rfl)
theorem zd_X5_firstTwo : yX5_firstTwo.cls ≠ "java/lang/invoke/MethodHandle" ∧ yX5_firstTwo.cls ≠ "java/lang/invoke/VarHandle" ∧ (parseMethodDescriptor yX5_firstTwo.desc).map (fun d => d.parameters.length) = some 1 := by decide +kernel
theorem kvX6_69 : zCv RX6 69 yX5_firstTwo cX5_firstTwo 4 (some .int) 1 5 := ⟨⟨zc_X5_firstTwo, zi_X5_firstTwo, by decide, zd_X5_firstTwo, (Or.inr ⟨"TwoHandles", (List.mem_filter.mpr ⟨zm_6 (List.mem_of_getElem? (i := 97) (by decide +kernel)), rfl⟩)⟩)⟩, zx_X5_firstTwo, zv_X5_firstTwo, rfl⟩
theorem kvX6_76 : zCv RX6 76 yX5_errs cX5_errs 4 (some .int) 3 5 := ⟨⟨zc_X5_errs, zi_X5_errs, by decide, zd_X5_errs, (Or.inr ⟨"TwoHandles", (List.mem_filter.mpr ⟨zm_6 (List.mem_of_getElem? (i := 106) (by decide +kernel)), rfl⟩)⟩)⟩, zx_X5_errs, zv_X5_errs, rfl⟩
theorem zc_X6_goBehind : Cond.code yX6_goBehind cX6_goBehind 5 (none) ∈ zTb := (zTb_mem (zm_6 (List.mem_of_getElem? (i := 110) (by decide +kernel))) rfl)
theorem zi_X6_goBehind : Cond.initialized yX6_goBehind.cls ∈ zTb := (zTb_mem (zm_1 (List.mem_of_getElem? (i := 8) (by decide +kernel))) rfl)
theorem zx_X6_goBehind : Cond.instanceMethod yX6_goBehind ∈ zTb := (zTb_mem (zm_6 (List.mem_of_getElem? (i := 109) (by decide +kernel))) rfl)
theorem zv_X6_goBehind : Cond.selects yX6_goBehind.cls yX6_goBehind yX6_goBehind ∈ zTb := zp_5 (List.mem_of_getElem? (i := 2) rfl)
theorem zd_X6_goBehind : yX6_goBehind.cls ≠ "java/lang/invoke/MethodHandle" ∧ yX6_goBehind.cls ≠ "java/lang/invoke/VarHandle" ∧ (parseMethodDescriptor yX6_goBehind.desc).map (fun d => d.parameters.length) = some 4 := by decide +kernel
theorem klX6_80 : Cond.methodLink RX6 80 yX6_goBehind ∈ zTb := (zTb_mem (zm_6 (List.mem_of_getElem? (i := 107) (by decide +kernel))) rfl)
theorem kvX6_80 : zCv RX6 80 yX6_goBehind cX6_goBehind 5 (none) 4 6 := ⟨⟨zc_X6_goBehind, zi_X6_goBehind, by decide, zd_X6_goBehind, (Or.inl klX6_80)⟩, zx_X6_goBehind, zv_X6_goBehind, rfl⟩
theorem ksX6_84 : zCs RX6 84 yX8_workCode cX8_workCode 3 (some .int) 3 := ⟨⟨zc_X8_workCode, zi_X8_workCode, by decide, zd_X8_workCode, (Or.inr ⟨"TwoHandles", (List.mem_filter.mpr ⟨zm_6 (List.mem_of_getElem? (i := 113) (by decide +kernel)), rfl⟩)⟩)⟩, zs_X8_workCode⟩
theorem kvX6_87 : zCv RX6 87 yX5_doWork cX5_doWork 10 (some .int) 3 5 := ⟨⟨zc_X5_doWork, zi_X5_doWork, by decide, zd_X5_doWork, (Or.inr ⟨"TwoHandles", (List.mem_filter.mpr ⟨zm_6 (List.mem_of_getElem? (i := 111) (by decide +kernel)), rfl⟩)⟩)⟩, zx_X5_doWork, zv_X5_doWork, rfl⟩
theorem zc_X8_doorOfRow : Cond.code yX8_doorOfRow cX8_doorOfRow 1 (some .int) ∈ zTb := (zTb_mem (zm_5 (List.mem_of_getElem? (i := 222) (by decide +kernel))) rfl)
theorem zi_X8_doorOfRow : Cond.initialized yX8_doorOfRow.cls ∈ zTb := (zTb_mem (zm_1 (List.mem_of_getElem? (i := 1) (by decide +kernel))) rfl)
theorem zs_X8_doorOfRow : Cond.static yX8_doorOfRow ∈ zTb := (zTb_mem (zm_5 (List.mem_of_getElem? (i := 221) (by decide +kernel))) rfl)
theorem zd_X8_doorOfRow : yX8_doorOfRow.cls ≠ "java/lang/invoke/MethodHandle" ∧ yX8_doorOfRow.cls ≠ "java/lang/invoke/VarHandle" ∧ (parseMethodDescriptor yX8_doorOfRow.desc).map (fun d => d.parameters.length) = some 1 := by decide +kernel
theorem ksX6_90 : zCs RX6 90 yX8_doorOfRow cX8_doorOfRow 1 (some .int) 1 := ⟨⟨zc_X8_doorOfRow, zi_X8_doorOfRow, by decide, zd_X8_doorOfRow, (Or.inr ⟨"TwoHandles", (List.mem_filter.mpr ⟨zm_6 (List.mem_of_getElem? (i := 118) (by decide +kernel)), rfl⟩)⟩)⟩, zs_X8_doorOfRow⟩
theorem klX7_58 : Cond.methodLink RX7 58 yJ7_fill_53178 ∈ zTb := (zTb_mem (zm_4 (List.mem_of_getElem? (i := 127) (by decide +kernel))) rfl)
theorem ksX7_58 : zCs RX7 58 yJ7_fill_53178 cJ7_fill_53178 4 (none) 2 := ⟨⟨zc_J7_fill_53178, zi_J7_fill_53178, by decide, zd_J7_fill_53178, (Or.inl klX7_58)⟩, zs_J7_fill_53178⟩
theorem klX7_70 : Cond.methodLink RX7 70 yJ6_bitCount_0f7a4 ∈ zTb := (zTb_mem (zm_5 (List.mem_of_getElem? (i := 23) (by decide +kernel))) rfl)
theorem ksX7_70 : zCs RX7 70 yJ6_bitCount_0f7a4 cJ6_bitCount_0f7a4 1 (some .int) 1 := ⟨⟨zc_J6_bitCount_0f7a4, zi_J6_bitCount_0f7a4, by decide, zd_J6_bitCount_0f7a4, (Or.inl klX7_70)⟩, zs_J6_bitCount_0f7a4⟩
theorem zc_X7_familyOf : Cond.code yX7_familyOf cX7_familyOf 5 (some .int) ∈ zTb := (zTb_mem (zm_7 (List.mem_of_getElem? (i := 142) (by decide +kernel))) rfl)
theorem zi_X7_familyOf : Cond.initialized yX7_familyOf.cls ∈ zTb := (zTb_mem (zm_1 (List.mem_of_getElem? (i := 2) (by decide +kernel))) rfl)
theorem zx_X7_familyOf : Cond.instanceMethod yX7_familyOf ∈ zTb := (zTb_mem (zm_7 (List.mem_of_getElem? (i := 141) (by decide +kernel))) rfl)
theorem zv_X7_familyOf : Cond.selects yX7_familyOf.cls yX7_familyOf yX7_familyOf ∈ zTb := zp_7 (List.mem_of_getElem? (i := 2) rfl)
theorem zd_X7_familyOf : yX7_familyOf.cls ≠ "java/lang/invoke/MethodHandle" ∧ yX7_familyOf.cls ≠ "java/lang/invoke/VarHandle" ∧ (parseMethodDescriptor yX7_familyOf.desc).map (fun d => d.parameters.length) = some 1 := by decide +kernel
theorem klX7_76 : Cond.methodLink RX7 76 yX7_familyOf ∈ zTb := (zTb_mem (zm_7 (List.mem_of_getElem? (i := 139) (by decide +kernel))) rfl)
theorem kvX7_76 : zCv RX7 76 yX7_familyOf cX7_familyOf 5 (some .int) 1 7 := ⟨⟨zc_X7_familyOf, zi_X7_familyOf, by decide, zd_X7_familyOf, (Or.inl klX7_76)⟩, zx_X7_familyOf, zv_X7_familyOf, rfl⟩
theorem klX7_79 : Cond.methodLink RX7 79 yJ6_numberOfTrailingZeros_0f7a4 ∈ zTb := (zTb_mem (zm_7 (List.mem_of_getElem? (i := 143) (by decide +kernel))) rfl)
theorem ksX7_79 : zCs RX7 79 yJ6_numberOfTrailingZeros_0f7a4 cJ6_numberOfTrailingZeros_0f7a4 2 (some .int) 1 := ⟨⟨zc_J6_numberOfTrailingZeros_0f7a4, zi_J6_numberOfTrailingZeros_0f7a4, by decide, zd_J6_numberOfTrailingZeros_0f7a4, (Or.inl klX7_79)⟩, zs_J6_numberOfTrailingZeros_0f7a4⟩
theorem zc_X8_putBytes : Cond.code yX8_putBytes cX8_putBytes 3 (none) ∈ zTb := (zTb_mem (zm_2 (List.mem_of_getElem? (i := 150) (by decide +kernel))) rfl)
theorem zi_X8_putBytes : Cond.initialized yX8_putBytes.cls ∈ zTb := (zTb_mem (zm_1 (List.mem_of_getElem? (i := 1) (by decide +kernel))) rfl)
theorem zx_X8_putBytes : Cond.instanceMethod yX8_putBytes ∈ zTb := (zTb_mem (zm_2 (List.mem_of_getElem? (i := 149) (by decide +kernel))) rfl)
theorem zv_X8_putBytes : Cond.selects yX8_putBytes.cls yX8_putBytes yX8_putBytes ∈ zTb := zp_1 (List.mem_of_getElem? (i := 0) rfl)
theorem zd_X8_putBytes : yX8_putBytes.cls ≠ "java/lang/invoke/MethodHandle" ∧ yX8_putBytes.cls ≠ "java/lang/invoke/VarHandle" ∧ (parseMethodDescriptor yX8_putBytes.desc).map (fun d => d.parameters.length) = some 1 := by decide +kernel
theorem klX8_92 : Cond.methodLink RX8 92 yX8_putBytes ∈ zTb := (zTb_mem (zm_2 (List.mem_of_getElem? (i := 147) (by decide +kernel))) rfl)
theorem kvX8_92 : zCv RX8 92 yX8_putBytes cX8_putBytes 3 (none) 1 8 := ⟨⟨zc_X8_putBytes, zi_X8_putBytes, by decide, zd_X8_putBytes, (Or.inl klX8_92)⟩, zx_X8_putBytes, zv_X8_putBytes, rfl⟩
theorem zc_X3_readTown : Cond.code yX3_readTown cX3_readTown 4 (some .int) ∈ zTb := (zTb_mem (zm_4 (List.mem_of_getElem? (i := 121) (by decide +kernel))) rfl)
theorem zi_X3_readTown : Cond.initialized yX3_readTown.cls ∈ zTb := (zTb_mem (zm_1 (List.mem_of_getElem? (i := 3) (by decide +kernel))) rfl)
theorem zx_X3_readTown : Cond.instanceMethod yX3_readTown ∈ zTb := (zTb_mem (zm_4 (List.mem_of_getElem? (i := 120) (by decide +kernel))) rfl)
theorem zv_X3_readTown : Cond.selects yX3_readTown.cls yX3_readTown yX3_readTown ∈ zTb := zp_1 (List.mem_of_getElem? (i := 15) rfl)
theorem zd_X3_readTown : yX3_readTown.cls ≠ "java/lang/invoke/MethodHandle" ∧ yX3_readTown.cls ≠ "java/lang/invoke/VarHandle" ∧ (parseMethodDescriptor yX3_readTown.desc).map (fun d => d.parameters.length) = some 1 := by decide +kernel
theorem kvX8_103 : zCv RX8 103 yX3_readTown cX3_readTown 4 (some .int) 1 3 := ⟨⟨zc_X3_readTown, zi_X3_readTown, by decide, zd_X3_readTown, (Or.inr ⟨"TwoHandles", (List.mem_filter.mpr ⟨zm_4 (List.mem_of_getElem? (i := 118) (by decide +kernel)), rfl⟩)⟩)⟩, zx_X3_readTown, zv_X3_readTown, rfl⟩
theorem zc_X7_copyFrom : Cond.code yX7_copyFrom cX7_copyFrom 2 (none) ∈ zTb := (zTb_mem (zm_4 (List.mem_of_getElem? (i := 237) (by decide +kernel))) rfl)
theorem zi_X7_copyFrom : Cond.initialized yX7_copyFrom.cls ∈ zTb := (zTb_mem (zm_1 (List.mem_of_getElem? (i := 2) (by decide +kernel))) rfl)
theorem zx_X7_copyFrom : Cond.instanceMethod yX7_copyFrom ∈ zTb := (zTb_mem (zm_4 (List.mem_of_getElem? (i := 236) (by decide +kernel))) rfl)
theorem zv_X7_copyFrom : Cond.selects yX7_copyFrom.cls yX7_copyFrom yX7_copyFrom ∈ zTb := zp_3 (List.mem_of_getElem? (i := 3) rfl)
theorem zd_X7_copyFrom : yX7_copyFrom.cls ≠ "java/lang/invoke/MethodHandle" ∧ yX7_copyFrom.cls ≠ "java/lang/invoke/VarHandle" ∧ (parseMethodDescriptor yX7_copyFrom.desc).map (fun d => d.parameters.length) = some 1 := by decide +kernel
theorem kvX8_110 : zCv RX8 110 yX7_copyFrom cX7_copyFrom 2 (none) 1 7 := ⟨⟨zc_X7_copyFrom, zi_X7_copyFrom, by decide, zd_X7_copyFrom, (Or.inr ⟨"TwoHandles", (List.mem_filter.mpr ⟨zm_4 (List.mem_of_getElem? (i := 234) (by decide +kernel)), rfl⟩)⟩)⟩, zx_X7_copyFrom, zv_X7_copyFrom, rfl⟩
theorem zc_X5_beginAnew : Cond.code yX5_beginAnew cX5_beginAnew 1 (none) ∈ zTb := (zTb_mem (zm_5 (List.mem_of_getElem? (i := 2) (by decide +kernel))) rfl)
theorem zi_X5_beginAnew : Cond.initialized yX5_beginAnew.cls ∈ zTb := (zTb_mem (zm_1 (List.mem_of_getElem? (i := 4) (by decide +kernel))) rfl)
theorem zx_X5_beginAnew : Cond.instanceMethod yX5_beginAnew ∈ zTb := (zTb_mem (zm_5 (List.mem_of_getElem? (i := 1) (by decide +kernel))) rfl)
theorem zv_X5_beginAnew : Cond.selects yX5_beginAnew.cls yX5_beginAnew yX5_beginAnew ∈ zTb := zp_3 (List.mem_of_getElem? (i := 4) rfl)
theorem zd_X5_beginAnew : yX5_beginAnew.cls ≠ "java/lang/invoke/MethodHandle" ∧ yX5_beginAnew.cls ≠ "java/lang/invoke/VarHandle" ∧ (parseMethodDescriptor yX5_beginAnew.desc).map (fun d => d.parameters.length) = some 0 := by decide +kernel
theorem kvX8_113 : zCv RX8 113 yX5_beginAnew cX5_beginAnew 1 (none) 0 5 := ⟨⟨zc_X5_beginAnew, zi_X5_beginAnew, by decide, zd_X5_beginAnew, (Or.inr ⟨"TwoHandles", (List.mem_filter.mpr ⟨zm_4 (List.mem_of_getElem? (i := 239) (by decide +kernel)), rfl⟩)⟩)⟩, zx_X5_beginAnew, zv_X5_beginAnew, rfl⟩
theorem zc_X7_kinPairs : Cond.code yX7_kinPairs cX7_kinPairs 3 (some .int) ∈ zTb := (zTb_mem (zm_5 (List.mem_of_getElem? (i := 22) (by decide +kernel))) rfl)
theorem zi_X7_kinPairs : Cond.initialized yX7_kinPairs.cls ∈ zTb := (zTb_mem (zm_1 (List.mem_of_getElem? (i := 2) (by decide +kernel))) rfl)
theorem zx_X7_kinPairs : Cond.instanceMethod yX7_kinPairs ∈ zTb := (zTb_mem (zm_5 (List.mem_of_getElem? (i := 21) (by decide +kernel))) rfl)
theorem zv_X7_kinPairs : Cond.selects yX7_kinPairs.cls yX7_kinPairs yX7_kinPairs ∈ zTb := zp_3 (List.mem_of_getElem? (i := 7) rfl)
theorem zd_X7_kinPairs : yX7_kinPairs.cls ≠ "java/lang/invoke/MethodHandle" ∧ yX7_kinPairs.cls ≠ "java/lang/invoke/VarHandle" ∧ (parseMethodDescriptor yX7_kinPairs.desc).map (fun d => d.parameters.length) = some 0 := by decide +kernel
theorem kvX8_131 : zCv RX8 131 yX7_kinPairs cX7_kinPairs 3 (some .int) 0 7 := ⟨⟨zc_X7_kinPairs, zi_X7_kinPairs, by decide, zd_X7_kinPairs, (Or.inr ⟨"TwoHandles", (List.mem_filter.mpr ⟨zm_5 (List.mem_of_getElem? (i := 19) (by decide +kernel)), rfl⟩)⟩)⟩, zx_X7_kinPairs, zv_X7_kinPairs, rfl⟩
theorem zc_X8_needPerson : Cond.code yX8_needPerson cX8_needPerson 2 (none) ∈ zTb := (zTb_mem (zm_5 (List.mem_of_getElem? (i := 36) (by decide +kernel))) rfl)
theorem zi_X8_needPerson : Cond.initialized yX8_needPerson.cls ∈ zTb := (zTb_mem (zm_1 (List.mem_of_getElem? (i := 1) (by decide +kernel))) rfl)
theorem zx_X8_needPerson : Cond.instanceMethod yX8_needPerson ∈ zTb := (zTb_mem (zm_5 (List.mem_of_getElem? (i := 35) (by decide +kernel))) rfl)
theorem zv_X8_needPerson : Cond.selects yX8_needPerson.cls yX8_needPerson yX8_needPerson ∈ zTb := zp_3 (List.mem_of_getElem? (i := 8) rfl)
theorem zd_X8_needPerson : yX8_needPerson.cls ≠ "java/lang/invoke/MethodHandle" ∧ yX8_needPerson.cls ≠ "java/lang/invoke/VarHandle" ∧ (parseMethodDescriptor yX8_needPerson.desc).map (fun d => d.parameters.length) = some 1 := by decide +kernel
theorem klX8_140 : Cond.methodLink RX8 140 yX8_needPerson ∈ zTb := (zTb_mem (zm_5 (List.mem_of_getElem? (i := 33) (by decide +kernel))) rfl)
theorem kvX8_140 : zCv RX8 140 yX8_needPerson cX8_needPerson 2 (none) 1 8 := ⟨⟨zc_X8_needPerson, zi_X8_needPerson, by decide, zd_X8_needPerson, (Or.inl klX8_140)⟩, zx_X8_needPerson, zv_X8_needPerson, rfl⟩
theorem zc_X8_needQuestion : Cond.code yX8_needQuestion cX8_needQuestion 2 (none) ∈ zTb := (zTb_mem (zm_5 (List.mem_of_getElem? (i := 60) (by decide +kernel))) rfl)
theorem zi_X8_needQuestion : Cond.initialized yX8_needQuestion.cls ∈ zTb := (zTb_mem (zm_1 (List.mem_of_getElem? (i := 1) (by decide +kernel))) rfl)
theorem zx_X8_needQuestion : Cond.instanceMethod yX8_needQuestion ∈ zTb := (zTb_mem (zm_5 (List.mem_of_getElem? (i := 59) (by decide +kernel))) rfl)
theorem zv_X8_needQuestion : Cond.selects yX8_needQuestion.cls yX8_needQuestion yX8_needQuestion ∈ zTb := zp_3 (List.mem_of_getElem? (i := 10) rfl)
theorem zd_X8_needQuestion : yX8_needQuestion.cls ≠ "java/lang/invoke/MethodHandle" ∧ yX8_needQuestion.cls ≠ "java/lang/invoke/VarHandle" ∧ (parseMethodDescriptor yX8_needQuestion.desc).map (fun d => d.parameters.length) = some 1 := by decide +kernel
theorem klX8_143 : Cond.methodLink RX8 143 yX8_needQuestion ∈ zTb := (zTb_mem (zm_5 (List.mem_of_getElem? (i := 57) (by decide +kernel))) rfl)
theorem kvX8_143 : zCv RX8 143 yX8_needQuestion cX8_needQuestion 2 (none) 1 8 := ⟨⟨zc_X8_needQuestion, zi_X8_needQuestion, by decide, zd_X8_needQuestion, (Or.inl klX8_143)⟩, zx_X8_needQuestion, zv_X8_needQuestion, rfl⟩
theorem kvX8_146 : zCv RX8 146 yX5_thought cX5_thought 3 (some .int) 2 5 := ⟨⟨zc_X5_thought, zi_X5_thought, by decide, zd_X5_thought, (Or.inr ⟨"TwoHandles", (List.mem_filter.mpr ⟨zm_5 (List.mem_of_getElem? (i := 62) (by decide +kernel)), rfl⟩)⟩)⟩, zx_X5_thought, zv_X5_thought, rfl⟩
theorem klX8_162 : Cond.methodLink RX8 162 yJ6_bitCount_0f7a4 ∈ zTb := (zTb_mem (zm_4 (List.mem_of_getElem? (i := 101) (by decide +kernel))) rfl)
theorem ksX8_162 : zCs RX8 162 yJ6_bitCount_0f7a4 cJ6_bitCount_0f7a4 1 (some .int) 1 := ⟨⟨zc_J6_bitCount_0f7a4, zi_J6_bitCount_0f7a4, by decide, zd_J6_bitCount_0f7a4, (Or.inl klX8_162)⟩, zs_J6_bitCount_0f7a4⟩
theorem zc_X8_needDoor : Cond.code yX8_needDoor cX8_needDoor 2 (none) ∈ zTb := (zTb_mem (zm_5 (List.mem_of_getElem? (i := 84) (by decide +kernel))) rfl)
theorem zi_X8_needDoor : Cond.initialized yX8_needDoor.cls ∈ zTb := (zTb_mem (zm_1 (List.mem_of_getElem? (i := 1) (by decide +kernel))) rfl)
theorem zx_X8_needDoor : Cond.instanceMethod yX8_needDoor ∈ zTb := (zTb_mem (zm_5 (List.mem_of_getElem? (i := 83) (by decide +kernel))) rfl)
theorem zv_X8_needDoor : Cond.selects yX8_needDoor.cls yX8_needDoor yX8_needDoor ∈ zTb := zp_3 (List.mem_of_getElem? (i := 12) rfl)
theorem zd_X8_needDoor : yX8_needDoor.cls ≠ "java/lang/invoke/MethodHandle" ∧ yX8_needDoor.cls ≠ "java/lang/invoke/VarHandle" ∧ (parseMethodDescriptor yX8_needDoor.desc).map (fun d => d.parameters.length) = some 1 := by decide +kernel
theorem klX8_167 : Cond.methodLink RX8 167 yX8_needDoor ∈ zTb := (zTb_mem (zm_5 (List.mem_of_getElem? (i := 81) (by decide +kernel))) rfl)
theorem kvX8_167 : zCv RX8 167 yX8_needDoor cX8_needDoor 2 (none) 1 8 := ⟨⟨zc_X8_needDoor, zi_X8_needDoor, by decide, zd_X8_needDoor, (Or.inl klX8_167)⟩, zx_X8_needDoor, zv_X8_needDoor, rfl⟩
theorem kvX8_182 : zCv RX8 182 yX5_isOpen cX5_isOpen 2 (some .boolean) 1 5 := ⟨⟨zc_X5_isOpen, zi_X5_isOpen, by decide, zd_X5_isOpen, (Or.inr ⟨"TwoHandles", (List.mem_filter.mpr ⟨zm_5 (List.mem_of_getElem? (i := 98) (by decide +kernel)), rfl⟩)⟩)⟩, zx_X5_isOpen, zv_X5_isOpen, rfl⟩
theorem zc_X8_needDay : Cond.code yX8_needDay cX8_needDay 2 (none) ∈ zTb := (zTb_mem (zm_5 (List.mem_of_getElem? (i := 109) (by decide +kernel))) rfl)
theorem zi_X8_needDay : Cond.initialized yX8_needDay.cls ∈ zTb := (zTb_mem (zm_1 (List.mem_of_getElem? (i := 1) (by decide +kernel))) rfl)
theorem zx_X8_needDay : Cond.instanceMethod yX8_needDay ∈ zTb := (zTb_mem (zm_5 (List.mem_of_getElem? (i := 108) (by decide +kernel))) rfl)
theorem zv_X8_needDay : Cond.selects yX8_needDay.cls yX8_needDay yX8_needDay ∈ zTb := zp_3 (List.mem_of_getElem? (i := 13) rfl)
theorem zd_X8_needDay : yX8_needDay.cls ≠ "java/lang/invoke/MethodHandle" ∧ yX8_needDay.cls ≠ "java/lang/invoke/VarHandle" ∧ (parseMethodDescriptor yX8_needDay.desc).map (fun d => d.parameters.length) = some 1 := by decide +kernel
theorem klX8_186 : Cond.methodLink RX8 186 yX8_needDay ∈ zTb := (zTb_mem (zm_5 (List.mem_of_getElem? (i := 106) (by decide +kernel))) rfl)
theorem kvX8_186 : zCv RX8 186 yX8_needDay cX8_needDay 2 (none) 1 8 := ⟨⟨zc_X8_needDay, zi_X8_needDay, by decide, zd_X8_needDay, (Or.inl klX8_186)⟩, zx_X8_needDay, zv_X8_needDay, rfl⟩
theorem kvX8_189 : zCv RX8 189 yX7_slateOf cX7_slateOf 2 (some .int) 1 7 := ⟨⟨zc_X7_slateOf, zi_X7_slateOf, by decide, zd_X7_slateOf, (Or.inr ⟨"TwoHandles", (List.mem_filter.mpr ⟨zm_5 (List.mem_of_getElem? (i := 111) (by decide +kernel)), rfl⟩)⟩)⟩, zx_X7_slateOf, zv_X7_slateOf, rfl⟩
theorem kvX8_192 : zCv RX8 192 yX5_errs cX5_errs 4 (some .int) 3 5 := ⟨⟨zc_X5_errs, zi_X5_errs, by decide, zd_X5_errs, (Or.inr ⟨"TwoHandles", (List.mem_filter.mpr ⟨zm_5 (List.mem_of_getElem? (i := 119) (by decide +kernel)), rfl⟩)⟩)⟩, zx_X5_errs, zv_X5_errs, rfl⟩
theorem kvX8_196 : zCv RX8 196 yX5_doWork cX5_doWork 10 (some .int) 3 5 := ⟨⟨zc_X5_doWork, zi_X5_doWork, by decide, zd_X5_doWork, (Or.inr ⟨"TwoHandles", (List.mem_filter.mpr ⟨zm_5 (List.mem_of_getElem? (i := 120) (by decide +kernel)), rfl⟩)⟩)⟩, zx_X5_doWork, zv_X5_doWork, rfl⟩
theorem kvX8_207 : zCv RX8 207 yX5_beginDay cX5_beginDay 2 (none) 1 5 := ⟨⟨zc_X5_beginDay, zi_X5_beginDay, by decide, zd_X5_beginDay, (Or.inr ⟨"TwoHandles", (List.mem_filter.mpr ⟨zm_5 (List.mem_of_getElem? (i := 167) (by decide +kernel)), rfl⟩)⟩)⟩, zx_X5_beginDay, zv_X5_beginDay, rfl⟩
theorem zc_X5_stepTowards : Cond.code yX5_stepTowards cX5_stepTowards 4 (none) ∈ zTb := (zTb_mem (zm_5 (List.mem_of_getElem? (i := 179) (by decide +kernel))) rfl)
theorem zi_X5_stepTowards : Cond.initialized yX5_stepTowards.cls ∈ zTb := (zTb_mem (zm_1 (List.mem_of_getElem? (i := 4) (by decide +kernel))) rfl)
theorem zx_X5_stepTowards : Cond.instanceMethod yX5_stepTowards ∈ zTb := (zTb_mem (zm_5 (List.mem_of_getElem? (i := 178) (by decide +kernel))) rfl)
theorem zv_X5_stepTowards : Cond.selects yX5_stepTowards.cls yX5_stepTowards yX5_stepTowards ∈ zTb := zp_4 (List.mem_of_getElem? (i := 0) rfl)
theorem zd_X5_stepTowards : yX5_stepTowards.cls ≠ "java/lang/invoke/MethodHandle" ∧ yX5_stepTowards.cls ≠ "java/lang/invoke/VarHandle" ∧ (parseMethodDescriptor yX5_stepTowards.desc).map (fun d => d.parameters.length) = some 3 := by decide +kernel
theorem kvX8_212 : zCv RX8 212 yX5_stepTowards cX5_stepTowards 4 (none) 3 5 := ⟨⟨zc_X5_stepTowards, zi_X5_stepTowards, by decide, zd_X5_stepTowards, (Or.inr ⟨"TwoHandles", (List.mem_filter.mpr ⟨zm_5 (List.mem_of_getElem? (i := 176) (by decide +kernel)), rfl⟩)⟩)⟩, zx_X5_stepTowards, zv_X5_stepTowards, rfl⟩
theorem zc_X8_needWhat : Cond.code yX8_needWhat cX8_needWhat 3 (none) ∈ zTb := (zTb_mem (zm_5 (List.mem_of_getElem? (i := 197) (by decide +kernel))) rfl)
theorem zi_X8_needWhat : Cond.initialized yX8_needWhat.cls ∈ zTb := (zTb_mem (zm_1 (List.mem_of_getElem? (i := 1) (by decide +kernel))) rfl)
theorem zx_X8_needWhat : Cond.instanceMethod yX8_needWhat ∈ zTb := (zTb_mem (zm_5 (List.mem_of_getElem? (i := 196) (by decide +kernel))) rfl)
theorem zv_X8_needWhat : Cond.selects yX8_needWhat.cls yX8_needWhat yX8_needWhat ∈ zTb := zp_4 (List.mem_of_getElem? (i := 2) rfl)
theorem zd_X8_needWhat : yX8_needWhat.cls ≠ "java/lang/invoke/MethodHandle" ∧ yX8_needWhat.cls ≠ "java/lang/invoke/VarHandle" ∧ (parseMethodDescriptor yX8_needWhat.desc).map (fun d => d.parameters.length) = some 2 := by decide +kernel
theorem klX8_216 : Cond.methodLink RX8 216 yX8_needWhat ∈ zTb := (zTb_mem (zm_5 (List.mem_of_getElem? (i := 194) (by decide +kernel))) rfl)
theorem kvX8_216 : zCv RX8 216 yX8_needWhat cX8_needWhat 3 (none) 2 8 := ⟨⟨zc_X8_needWhat, zi_X8_needWhat, by decide, zd_X8_needWhat, (Or.inl klX8_216)⟩, zx_X8_needWhat, zv_X8_needWhat, rfl⟩
theorem kvX8_220 : zCv RX8 220 yX5_isTooLate cX5_isTooLate 2 (some .boolean) 1 5 := ⟨⟨zc_X5_isTooLate, zi_X5_isTooLate, by decide, zd_X5_isTooLate, (Or.inr ⟨"TwoHandles", (List.mem_filter.mpr ⟨zm_5 (List.mem_of_getElem? (i := 198) (by decide +kernel)), rfl⟩)⟩)⟩, zx_X5_isTooLate, zv_X5_isTooLate, rfl⟩
theorem klX8_229 : Cond.methodLink RX8 229 yX8_workCode ∈ zTb := (zTb_mem (zm_5 (List.mem_of_getElem? (i := 206) (by decide +kernel))) rfl)
theorem ksX8_229 : zCs RX8 229 yX8_workCode cX8_workCode 3 (some .int) 3 := ⟨⟨zc_X8_workCode, zi_X8_workCode, by decide, zd_X8_workCode, (Or.inl klX8_229)⟩, zs_X8_workCode⟩
theorem kvX8_232 : zCv RX8 232 yX5_copyWorld cX5_copyWorld 2 (none) 1 5 := ⟨⟨zc_X5_copyWorld, zi_X5_copyWorld, by decide, zd_X5_copyWorld, (Or.inr ⟨"TwoHandles", (List.mem_filter.mpr ⟨zm_2 (List.mem_of_getElem? (i := 167) (by decide +kernel)), rfl⟩)⟩)⟩, zx_X5_copyWorld, zv_X5_copyWorld, rfl⟩
theorem zc_X8_playRow : Cond.code yX8_playRow cX8_playRow 7 (some .int) ∈ zTb := (zTb_mem (zm_5 (List.mem_of_getElem? (i := 219) (by decide +kernel))) rfl)
theorem zi_X8_playRow : Cond.initialized yX8_playRow.cls ∈ zTb := (zTb_mem (zm_1 (List.mem_of_getElem? (i := 1) (by decide +kernel))) rfl)
theorem zx_X8_playRow : Cond.instanceMethod yX8_playRow ∈ zTb := (zTb_mem (zm_5 (List.mem_of_getElem? (i := 218) (by decide +kernel))) rfl)
theorem zv_X8_playRow : Cond.selects yX8_playRow.cls yX8_playRow yX8_playRow ∈ zTb := zp_4 (List.mem_of_getElem? (i := 3) rfl)
theorem zd_X8_playRow : yX8_playRow.cls ≠ "java/lang/invoke/MethodHandle" ∧ yX8_playRow.cls ≠ "java/lang/invoke/VarHandle" ∧ (parseMethodDescriptor yX8_playRow.desc).map (fun d => d.parameters.length) = some 1 := by decide +kernel
theorem klX8_236 : Cond.methodLink RX8 236 yX8_playRow ∈ zTb := (zTb_mem (zm_5 (List.mem_of_getElem? (i := 216) (by decide +kernel))) rfl)
theorem kvX8_236 : zCv RX8 236 yX8_playRow cX8_playRow 7 (some .int) 1 8 := ⟨⟨zc_X8_playRow, zi_X8_playRow, by decide, zd_X8_playRow, (Or.inl klX8_236)⟩, zx_X8_playRow, zv_X8_playRow, rfl⟩
theorem klX8_239 : Cond.methodLink RX8 239 yX8_doorOfRow ∈ zTb := (zTb_mem (zm_5 (List.mem_of_getElem? (i := 220) (by decide +kernel))) rfl)
theorem ksX8_239 : zCs RX8 239 yX8_doorOfRow cX8_doorOfRow 1 (some .int) 1 := ⟨⟨zc_X8_doorOfRow, zi_X8_doorOfRow, by decide, zd_X8_doorOfRow, (Or.inl klX8_239)⟩, zs_X8_doorOfRow⟩
theorem zc_X8_needQuestionOrNone : Cond.code yX8_needQuestionOrNone cX8_needQuestionOrNone 2 (none) ∈ zTb := (zTb_mem (zm_5 (List.mem_of_getElem? (i := 233) (by decide +kernel))) rfl)
theorem zi_X8_needQuestionOrNone : Cond.initialized yX8_needQuestionOrNone.cls ∈ zTb := (zTb_mem (zm_1 (List.mem_of_getElem? (i := 1) (by decide +kernel))) rfl)
theorem zx_X8_needQuestionOrNone : Cond.instanceMethod yX8_needQuestionOrNone ∈ zTb := (zTb_mem (zm_5 (List.mem_of_getElem? (i := 232) (by decide +kernel))) rfl)
theorem zv_X8_needQuestionOrNone : Cond.selects yX8_needQuestionOrNone.cls yX8_needQuestionOrNone yX8_needQuestionOrNone ∈ zTb := zp_4 (List.mem_of_getElem? (i := 4) rfl)
theorem zd_X8_needQuestionOrNone : yX8_needQuestionOrNone.cls ≠ "java/lang/invoke/MethodHandle" ∧ yX8_needQuestionOrNone.cls ≠ "java/lang/invoke/VarHandle" ∧ (parseMethodDescriptor yX8_needQuestionOrNone.desc).map (fun d => d.parameters.length) = some 1 := by decide +kernel
theorem klX8_242 : Cond.methodLink RX8 242 yX8_needQuestionOrNone ∈ zTb := (zTb_mem (zm_5 (List.mem_of_getElem? (i := 230) (by decide +kernel))) rfl)
theorem kvX8_242 : zCv RX8 242 yX8_needQuestionOrNone cX8_needQuestionOrNone 2 (none) 1 8 := ⟨⟨zc_X8_needQuestionOrNone, zi_X8_needQuestionOrNone, by decide, zd_X8_needQuestionOrNone, (Or.inl klX8_242)⟩, zx_X8_needQuestionOrNone, zv_X8_needQuestionOrNone, rfl⟩
theorem zc_X8_planToday : Cond.code yX8_planToday cX8_planToday 2 (none) ∈ zTb := (zTb_mem (zm_2 (List.mem_of_getElem? (i := 166) (by decide +kernel))) rfl)
theorem zi_X8_planToday : Cond.initialized yX8_planToday.cls ∈ zTb := (zTb_mem (zm_1 (List.mem_of_getElem? (i := 1) (by decide +kernel))) rfl)
theorem zx_X8_planToday : Cond.instanceMethod yX8_planToday ∈ zTb := (zTb_mem (zm_2 (List.mem_of_getElem? (i := 165) (by decide +kernel))) rfl)
theorem zv_X8_planToday : Cond.selects yX8_planToday.cls yX8_planToday yX8_planToday ∈ zTb := zp_1 (List.mem_of_getElem? (i := 1) rfl)
theorem zd_X8_planToday : yX8_planToday.cls ≠ "java/lang/invoke/MethodHandle" ∧ yX8_planToday.cls ≠ "java/lang/invoke/VarHandle" ∧ (parseMethodDescriptor yX8_planToday.desc).map (fun d => d.parameters.length) = some 1 := by decide +kernel
theorem klX8_245 : Cond.methodLink RX8 245 yX8_planToday ∈ zTb := (zTb_mem (zm_2 (List.mem_of_getElem? (i := 163) (by decide +kernel))) rfl)
theorem kvX8_245 : zCv RX8 245 yX8_planToday cX8_planToday 2 (none) 1 8 := ⟨⟨zc_X8_planToday, zi_X8_planToday, by decide, zd_X8_planToday, (Or.inl klX8_245)⟩, zx_X8_planToday, zv_X8_planToday, rfl⟩
theorem kvX8_248 : zCv RX8 248 yX2_worthAtMost cX2_worthAtMost 1 (some .int) 0 2 := ⟨⟨zc_X2_worthAtMost, zi_X2_worthAtMost, by decide, zd_X2_worthAtMost, (Or.inr ⟨"TwoHandles", (List.mem_filter.mpr ⟨zm_4 (List.mem_of_getElem? (i := 78) (by decide +kernel)), rfl⟩)⟩)⟩, zx_X2_worthAtMost, zv_X2_worthAtMost, rfl⟩
theorem kvX8_251 : zCv RX8 251 yX2_doorsAtMost cX2_doorsAtMost 1 (some .int) 0 2 := ⟨⟨zc_X2_doorsAtMost, zi_X2_doorsAtMost, by decide, zd_X2_doorsAtMost, (Or.inr ⟨"TwoHandles", (List.mem_filter.mpr ⟨zm_5 (List.mem_of_getElem? (i := 234) (by decide +kernel)), rfl⟩)⟩)⟩, zx_X2_doorsAtMost, zv_X2_doorsAtMost, rfl⟩
theorem zc_X2_seatedAt : Cond.code yX2_seatedAt cX2_seatedAt 2 (some .int) ∈ zTb := (zTb_mem (zm_6 (List.mem_of_getElem? (i := 9) (by decide +kernel))) rfl)
theorem zi_X2_seatedAt : Cond.initialized yX2_seatedAt.cls ∈ zTb := (zTb_mem (zm_1 (List.mem_of_getElem? (i := 5) (by decide +kernel))) rfl)
theorem zx_X2_seatedAt : Cond.instanceMethod yX2_seatedAt ∈ zTb := (zTb_mem (zm_6 (List.mem_of_getElem? (i := 8) (by decide +kernel))) rfl)
theorem zv_X2_seatedAt : Cond.selects yX2_seatedAt.cls yX2_seatedAt yX2_seatedAt ∈ zTb := zp_4 (List.mem_of_getElem? (i := 6) rfl)
theorem zd_X2_seatedAt : yX2_seatedAt.cls ≠ "java/lang/invoke/MethodHandle" ∧ yX2_seatedAt.cls ≠ "java/lang/invoke/VarHandle" ∧ (parseMethodDescriptor yX2_seatedAt.desc).map (fun d => d.parameters.length) = some 1 := by decide +kernel
theorem kvX8_254 : zCv RX8 254 yX2_seatedAt cX2_seatedAt 2 (some .int) 1 2 := ⟨⟨zc_X2_seatedAt, zi_X2_seatedAt, by decide, zd_X2_seatedAt, (Or.inr ⟨"TwoHandles", (List.mem_filter.mpr ⟨zm_6 (List.mem_of_getElem? (i := 6) (by decide +kernel)), rfl⟩)⟩)⟩, zx_X2_seatedAt, zv_X2_seatedAt, rfl⟩
theorem zc_X2_greatestWorths : Cond.code yX2_greatestWorths cX2_greatestWorths 8 (some .int) ∈ zTb := (zTb_mem (zm_6 (List.mem_of_getElem? (i := 31) (by decide +kernel))) rfl)
theorem zi_X2_greatestWorths : Cond.initialized yX2_greatestWorths.cls ∈ zTb := (zTb_mem (zm_1 (List.mem_of_getElem? (i := 5) (by decide +kernel))) rfl)
theorem zx_X2_greatestWorths : Cond.instanceMethod yX2_greatestWorths ∈ zTb := (zTb_mem (zm_6 (List.mem_of_getElem? (i := 30) (by decide +kernel))) rfl)
theorem zv_X2_greatestWorths : Cond.selects yX2_greatestWorths.cls yX2_greatestWorths yX2_greatestWorths ∈ zTb := zp_4 (List.mem_of_getElem? (i := 7) rfl)
theorem zd_X2_greatestWorths : yX2_greatestWorths.cls ≠ "java/lang/invoke/MethodHandle" ∧ yX2_greatestWorths.cls ≠ "java/lang/invoke/VarHandle" ∧ (parseMethodDescriptor yX2_greatestWorths.desc).map (fun d => d.parameters.length) = some 1 := by decide +kernel
theorem kvX8_257 : zCv RX8 257 yX2_greatestWorths cX2_greatestWorths 8 (some .int) 1 2 := ⟨⟨zc_X2_greatestWorths, zi_X2_greatestWorths, by decide, zd_X2_greatestWorths, (Or.inr ⟨"TwoHandles", (List.mem_filter.mpr ⟨zm_6 (List.mem_of_getElem? (i := 28) (by decide +kernel)), rfl⟩)⟩)⟩, zx_X2_greatestWorths, zv_X2_greatestWorths, rfl⟩
theorem zc_X2_fewestPersons : Cond.code yX2_fewestPersons cX2_fewestPersons 5 (some .int) ∈ zTb := (zTb_mem (zm_6 (List.mem_of_getElem? (i := 42) (by decide +kernel))) rfl)
theorem zi_X2_fewestPersons : Cond.initialized yX2_fewestPersons.cls ∈ zTb := (zTb_mem (zm_1 (List.mem_of_getElem? (i := 5) (by decide +kernel))) rfl)
theorem zx_X2_fewestPersons : Cond.instanceMethod yX2_fewestPersons ∈ zTb := (zTb_mem (zm_6 (List.mem_of_getElem? (i := 41) (by decide +kernel))) rfl)
theorem zv_X2_fewestPersons : Cond.selects yX2_fewestPersons.cls yX2_fewestPersons yX2_fewestPersons ∈ zTb := zp_4 (List.mem_of_getElem? (i := 8) rfl)
theorem zd_X2_fewestPersons : yX2_fewestPersons.cls ≠ "java/lang/invoke/MethodHandle" ∧ yX2_fewestPersons.cls ≠ "java/lang/invoke/VarHandle" ∧ (parseMethodDescriptor yX2_fewestPersons.desc).map (fun d => d.parameters.length) = some 0 := by decide +kernel
theorem kvX8_260 : zCv RX8 260 yX2_fewestPersons cX2_fewestPersons 5 (some .int) 0 2 := ⟨⟨zc_X2_fewestPersons, zi_X2_fewestPersons, by decide, zd_X2_fewestPersons, (Or.inr ⟨"TwoHandles", (List.mem_filter.mpr ⟨zm_6 (List.mem_of_getElem? (i := 39) (by decide +kernel)), rfl⟩)⟩)⟩, zx_X2_fewestPersons, zv_X2_fewestPersons, rfl⟩
theorem zc_X8_areThoughts : Cond.code yX8_areThoughts cX8_areThoughts 4 (some .boolean) ∈ zTb := (zTb_mem (zm_6 (List.mem_of_getElem? (i := 54) (by decide +kernel))) rfl)
theorem zi_X8_areThoughts : Cond.initialized yX8_areThoughts.cls ∈ zTb := (zTb_mem (zm_1 (List.mem_of_getElem? (i := 1) (by decide +kernel))) rfl)
theorem zx_X8_areThoughts : Cond.instanceMethod yX8_areThoughts ∈ zTb := (zTb_mem (zm_6 (List.mem_of_getElem? (i := 53) (by decide +kernel))) rfl)
theorem zv_X8_areThoughts : Cond.selects yX8_areThoughts.cls yX8_areThoughts yX8_areThoughts ∈ zTb := zp_4 (List.mem_of_getElem? (i := 9) rfl)
theorem zd_X8_areThoughts : yX8_areThoughts.cls ≠ "java/lang/invoke/MethodHandle" ∧ yX8_areThoughts.cls ≠ "java/lang/invoke/VarHandle" ∧ (parseMethodDescriptor yX8_areThoughts.desc).map (fun d => d.parameters.length) = some 1 := by decide +kernel
theorem klX8_263 : Cond.methodLink RX8 263 yX8_areThoughts ∈ zTb := (zTb_mem (zm_6 (List.mem_of_getElem? (i := 51) (by decide +kernel))) rfl)
theorem kvX8_263 : zCv RX8 263 yX8_areThoughts cX8_areThoughts 4 (some .boolean) 1 8 := ⟨⟨zc_X8_areThoughts, zi_X8_areThoughts, by decide, zd_X8_areThoughts, (Or.inl klX8_263)⟩, zx_X8_areThoughts, zv_X8_areThoughts, rfl⟩
theorem zc_X5_addStranger : Cond.code yX5_addStranger cX5_addStranger 5 (none) ∈ zTb := (zTb_mem (zm_6 (List.mem_of_getElem? (i := 59) (by decide +kernel))) rfl)
theorem zi_X5_addStranger : Cond.initialized yX5_addStranger.cls ∈ zTb := (zTb_mem (zm_1 (List.mem_of_getElem? (i := 4) (by decide +kernel))) rfl)
theorem zx_X5_addStranger : Cond.instanceMethod yX5_addStranger ∈ zTb := (zTb_mem (zm_6 (List.mem_of_getElem? (i := 58) (by decide +kernel))) rfl)
theorem zv_X5_addStranger : Cond.selects yX5_addStranger.cls yX5_addStranger yX5_addStranger ∈ zTb := zp_4 (List.mem_of_getElem? (i := 10) rfl)
theorem zd_X5_addStranger : yX5_addStranger.cls ≠ "java/lang/invoke/MethodHandle" ∧ yX5_addStranger.cls ≠ "java/lang/invoke/VarHandle" ∧ (parseMethodDescriptor yX5_addStranger.desc).map (fun d => d.parameters.length) = some 2 := by decide +kernel
theorem kvX8_268 : zCv RX8 268 yX5_addStranger cX5_addStranger 5 (none) 2 5 := ⟨⟨zc_X5_addStranger, zi_X5_addStranger, by decide, zd_X5_addStranger, (Or.inr ⟨"TwoHandles", (List.mem_filter.mpr ⟨zm_6 (List.mem_of_getElem? (i := 56) (by decide +kernel)), rfl⟩)⟩)⟩, zx_X5_addStranger, zv_X5_addStranger, rfl⟩
theorem zc_X2_make : Cond.code yX2_make cX2_make 3 (none) ∈ zTb := (zTb_mem (zm_2 (List.mem_of_getElem? (i := 177) (by decide +kernel))) rfl)
theorem zi_X2_make : Cond.initialized yX2_make.cls ∈ zTb := (zTb_mem (zm_1 (List.mem_of_getElem? (i := 5) (by decide +kernel))) rfl)
theorem zx_X2_make : Cond.instanceMethod yX2_make ∈ zTb := (zTb_mem (zm_2 (List.mem_of_getElem? (i := 176) (by decide +kernel))) rfl)
theorem zv_X2_make : Cond.selects yX2_make.cls yX2_make yX2_make ∈ zTb := zp_1 (List.mem_of_getElem? (i := 3) rfl)
theorem zd_X2_make : yX2_make.cls ≠ "java/lang/invoke/MethodHandle" ∧ yX2_make.cls ≠ "java/lang/invoke/VarHandle" ∧ (parseMethodDescriptor yX2_make.desc).map (fun d => d.parameters.length) = some 1 := by decide +kernel
theorem kvX8_271 : zCv RX8 271 yX2_make cX2_make 3 (none) 1 2 := ⟨⟨zc_X2_make, zi_X2_make, by decide, zd_X2_make, (Or.inr ⟨"TwoHandles", (List.mem_filter.mpr ⟨zm_2 (List.mem_of_getElem? (i := 174) (by decide +kernel)), rfl⟩)⟩)⟩, zx_X2_make, zv_X2_make, rfl⟩
theorem kvX8_274 : zCv RX8 274 yX5_stepTo cX5_stepTo 4 (some .int) 3 5 := ⟨⟨zc_X5_stepTo, zi_X5_stepTo, by decide, zd_X5_stepTo, (Or.inr ⟨"TwoHandles", (List.mem_filter.mpr ⟨zm_6 (List.mem_of_getElem? (i := 67) (by decide +kernel)), rfl⟩)⟩)⟩, zx_X5_stepTo, zv_X5_stepTo, rfl⟩
theorem zc_X8_worthBehindTalk : Cond.code yX8_worthBehindTalk cX8_worthBehindTalk 7 (some .int) ∈ zTb := (zTb_mem (zm_6 (List.mem_of_getElem? (i := 71) (by decide +kernel))) rfl)
theorem zi_X8_worthBehindTalk : Cond.initialized yX8_worthBehindTalk.cls ∈ zTb := (zTb_mem (zm_1 (List.mem_of_getElem? (i := 1) (by decide +kernel))) rfl)
theorem zx_X8_worthBehindTalk : Cond.instanceMethod yX8_worthBehindTalk ∈ zTb := (zTb_mem (zm_6 (List.mem_of_getElem? (i := 70) (by decide +kernel))) rfl)
theorem zv_X8_worthBehindTalk : Cond.selects yX8_worthBehindTalk.cls yX8_worthBehindTalk yX8_worthBehindTalk ∈ zTb := zp_4 (List.mem_of_getElem? (i := 11) rfl)
theorem zd_X8_worthBehindTalk : yX8_worthBehindTalk.cls ≠ "java/lang/invoke/MethodHandle" ∧ yX8_worthBehindTalk.cls ≠ "java/lang/invoke/VarHandle" ∧ (parseMethodDescriptor yX8_worthBehindTalk.desc).map (fun d => d.parameters.length) = some 3 := by decide +kernel
theorem klX8_277 : Cond.methodLink RX8 277 yX8_worthBehindTalk ∈ zTb := (zTb_mem (zm_6 (List.mem_of_getElem? (i := 68) (by decide +kernel))) rfl)
theorem kvX8_277 : zCv RX8 277 yX8_worthBehindTalk cX8_worthBehindTalk 7 (some .int) 3 8 := ⟨⟨zc_X8_worthBehindTalk, zi_X8_worthBehindTalk, by decide, zd_X8_worthBehindTalk, (Or.inl klX8_277)⟩, zx_X8_worthBehindTalk, zv_X8_worthBehindTalk, rfl⟩
theorem zc_X6_seekBestRow : Cond.code yX6_seekBestRow cX6_seekBestRow 2 (none) ∈ zTb := (zTb_mem (zm_6 (List.mem_of_getElem? (i := 87) (by decide +kernel))) rfl)
theorem zi_X6_seekBestRow : Cond.initialized yX6_seekBestRow.cls ∈ zTb := (zTb_mem (zm_1 (List.mem_of_getElem? (i := 8) (by decide +kernel))) rfl)
theorem zx_X6_seekBestRow : Cond.instanceMethod yX6_seekBestRow ∈ zTb := (zTb_mem (zm_6 (List.mem_of_getElem? (i := 86) (by decide +kernel))) rfl)
theorem zv_X6_seekBestRow : Cond.selects yX6_seekBestRow.cls yX6_seekBestRow yX6_seekBestRow ∈ zTb := zp_4 (List.mem_of_getElem? (i := 13) rfl)
theorem zd_X6_seekBestRow : yX6_seekBestRow.cls ≠ "java/lang/invoke/MethodHandle" ∧ yX6_seekBestRow.cls ≠ "java/lang/invoke/VarHandle" ∧ (parseMethodDescriptor yX6_seekBestRow.desc).map (fun d => d.parameters.length) = some 1 := by decide +kernel
theorem kvX8_280 : zCv RX8 280 yX6_seekBestRow cX6_seekBestRow 2 (none) 1 6 := ⟨⟨zc_X6_seekBestRow, zi_X6_seekBestRow, by decide, zd_X6_seekBestRow, (Or.inr ⟨"TwoHandles", (List.mem_filter.mpr ⟨zm_6 (List.mem_of_getElem? (i := 84) (by decide +kernel)), rfl⟩)⟩)⟩, zx_X6_seekBestRow, zv_X6_seekBestRow, rfl⟩
theorem zc_X6_answer : Cond.code yX6_answer cX6_answer 2 (some .int) ∈ zTb := (zTb_mem (zm_6 (List.mem_of_getElem? (i := 122) (by decide +kernel))) rfl)
theorem zi_X6_answer : Cond.initialized yX6_answer.cls ∈ zTb := (zTb_mem (zm_1 (List.mem_of_getElem? (i := 8) (by decide +kernel))) rfl)
theorem zx_X6_answer : Cond.instanceMethod yX6_answer ∈ zTb := (zTb_mem (zm_6 (List.mem_of_getElem? (i := 121) (by decide +kernel))) rfl)
theorem zv_X6_answer : Cond.selects yX6_answer.cls yX6_answer yX6_answer ∈ zTb := zp_5 (List.mem_of_getElem? (i := 4) rfl)
theorem zd_X6_answer : yX6_answer.cls ≠ "java/lang/invoke/MethodHandle" ∧ yX6_answer.cls ≠ "java/lang/invoke/VarHandle" ∧ (parseMethodDescriptor yX6_answer.desc).map (fun d => d.parameters.length) = some 1 := by decide +kernel
theorem kvX8_283 : zCv RX8 283 yX6_answer cX6_answer 2 (some .int) 1 6 := ⟨⟨zc_X6_answer, zi_X6_answer, by decide, zd_X6_answer, (Or.inr ⟨"TwoHandles", (List.mem_filter.mpr ⟨zm_6 (List.mem_of_getElem? (i := 119) (by decide +kernel)), rfl⟩)⟩)⟩, zx_X6_answer, zv_X6_answer, rfl⟩
theorem zc_X8_needRule : Cond.code yX8_needRule cX8_needRule 2 (none) ∈ zTb := (zTb_mem (zm_6 (List.mem_of_getElem? (i := 133) (by decide +kernel))) rfl)
theorem zi_X8_needRule : Cond.initialized yX8_needRule.cls ∈ zTb := (zTb_mem (zm_1 (List.mem_of_getElem? (i := 1) (by decide +kernel))) rfl)
theorem zx_X8_needRule : Cond.instanceMethod yX8_needRule ∈ zTb := (zTb_mem (zm_6 (List.mem_of_getElem? (i := 132) (by decide +kernel))) rfl)
theorem zv_X8_needRule : Cond.selects yX8_needRule.cls yX8_needRule yX8_needRule ∈ zTb := zp_5 (List.mem_of_getElem? (i := 5) rfl)
theorem zd_X8_needRule : yX8_needRule.cls ≠ "java/lang/invoke/MethodHandle" ∧ yX8_needRule.cls ≠ "java/lang/invoke/VarHandle" ∧ (parseMethodDescriptor yX8_needRule.desc).map (fun d => d.parameters.length) = some 1 := by decide +kernel
theorem klX8_286 : Cond.methodLink RX8 286 yX8_needRule ∈ zTb := (zTb_mem (zm_6 (List.mem_of_getElem? (i := 130) (by decide +kernel))) rfl)
theorem kvX8_286 : zCv RX8 286 yX8_needRule cX8_needRule 2 (none) 1 8 := ⟨⟨zc_X8_needRule, zi_X8_needRule, by decide, zd_X8_needRule, (Or.inl klX8_286)⟩, zx_X8_needRule, zv_X8_needRule, rfl⟩
theorem zc_X8_needDays : Cond.code yX8_needDays cX8_needDays 2 (none) ∈ zTb := (zTb_mem (zm_6 (List.mem_of_getElem? (i := 138) (by decide +kernel))) rfl)
theorem zi_X8_needDays : Cond.initialized yX8_needDays.cls ∈ zTb := (zTb_mem (zm_1 (List.mem_of_getElem? (i := 1) (by decide +kernel))) rfl)
theorem zx_X8_needDays : Cond.instanceMethod yX8_needDays ∈ zTb := (zTb_mem (zm_6 (List.mem_of_getElem? (i := 137) (by decide +kernel))) rfl)
theorem zv_X8_needDays : Cond.selects yX8_needDays.cls yX8_needDays yX8_needDays ∈ zTb := zp_5 (List.mem_of_getElem? (i := 6) rfl)
theorem zd_X8_needDays : yX8_needDays.cls ≠ "java/lang/invoke/MethodHandle" ∧ yX8_needDays.cls ≠ "java/lang/invoke/VarHandle" ∧ (parseMethodDescriptor yX8_needDays.desc).map (fun d => d.parameters.length) = some 1 := by decide +kernel
theorem klX8_289 : Cond.methodLink RX8 289 yX8_needDays ∈ zTb := (zTb_mem (zm_6 (List.mem_of_getElem? (i := 135) (by decide +kernel))) rfl)
theorem kvX8_289 : zCv RX8 289 yX8_needDays cX8_needDays 2 (none) 1 8 := ⟨⟨zc_X8_needDays, zi_X8_needDays, by decide, zd_X8_needDays, (Or.inl klX8_289)⟩, zx_X8_needDays, zv_X8_needDays, rfl⟩
theorem zc_X4_goOn : Cond.code yX4_goOn cX4_goOn 9 (none) ∈ zTb := (zTb_mem (zm_6 (List.mem_of_getElem? (i := 143) (by decide +kernel))) rfl)
theorem zi_X4_goOn : Cond.initialized yX4_goOn.cls ∈ zTb := (zTb_mem (zm_1 (List.mem_of_getElem? (i := 7) (by decide +kernel))) rfl)
theorem zx_X4_goOn : Cond.instanceMethod yX4_goOn ∈ zTb := (zTb_mem (zm_6 (List.mem_of_getElem? (i := 142) (by decide +kernel))) rfl)
theorem zv_X4_goOn : Cond.selects yX4_goOn.cls yX4_goOn yX4_goOn ∈ zTb := zp_5 (List.mem_of_getElem? (i := 7) rfl)
theorem zd_X4_goOn : yX4_goOn.cls ≠ "java/lang/invoke/MethodHandle" ∧ yX4_goOn.cls ≠ "java/lang/invoke/VarHandle" ∧ (parseMethodDescriptor yX4_goOn.desc).map (fun d => d.parameters.length) = some 4 := by decide +kernel
theorem kvX8_292 : zCv RX8 292 yX4_goOn cX4_goOn 9 (none) 4 4 := ⟨⟨zc_X4_goOn, zi_X4_goOn, by decide, zd_X4_goOn, (Or.inr ⟨"TwoHandles", (List.mem_filter.mpr ⟨zm_6 (List.mem_of_getElem? (i := 140) (by decide +kernel)), rfl⟩)⟩)⟩, zx_X4_goOn, zv_X4_goOn, rfl⟩
theorem zc_X4_answer : Cond.code yX4_answer cX4_answer 2 (some .int) ∈ zTb := (zTb_mem (zm_6 (List.mem_of_getElem? (i := 184) (by decide +kernel))) rfl)
theorem zi_X4_answer : Cond.initialized yX4_answer.cls ∈ zTb := (zTb_mem (zm_1 (List.mem_of_getElem? (i := 7) (by decide +kernel))) rfl)
theorem zx_X4_answer : Cond.instanceMethod yX4_answer ∈ zTb := (zTb_mem (zm_6 (List.mem_of_getElem? (i := 183) (by decide +kernel))) rfl)
theorem zv_X4_answer : Cond.selects yX4_answer.cls yX4_answer yX4_answer ∈ zTb := zp_5 (List.mem_of_getElem? (i := 15) rfl)
theorem zd_X4_answer : yX4_answer.cls ≠ "java/lang/invoke/MethodHandle" ∧ yX4_answer.cls ≠ "java/lang/invoke/VarHandle" ∧ (parseMethodDescriptor yX4_answer.desc).map (fun d => d.parameters.length) = some 1 := by decide +kernel
theorem kvX8_296 : zCv RX8 296 yX4_answer cX4_answer 2 (some .int) 1 4 := ⟨⟨zc_X4_answer, zi_X4_answer, by decide, zd_X4_answer, (Or.inr ⟨"TwoHandles", (List.mem_filter.mpr ⟨zm_6 (List.mem_of_getElem? (i := 181) (by decide +kernel)), rfl⟩)⟩)⟩, zx_X4_answer, zv_X4_answer, rfl⟩
theorem zc_X8_worthOfRun : Cond.code yX8_worthOfRun cX8_worthOfRun 4 (some .int) ∈ zTb := (zTb_mem (zm_6 (List.mem_of_getElem? (i := 203) (by decide +kernel))) rfl)
theorem zi_X8_worthOfRun : Cond.initialized yX8_worthOfRun.cls ∈ zTb := (zTb_mem (zm_1 (List.mem_of_getElem? (i := 1) (by decide +kernel))) rfl)
theorem zx_X8_worthOfRun : Cond.instanceMethod yX8_worthOfRun ∈ zTb := (zTb_mem (zm_6 (List.mem_of_getElem? (i := 202) (by decide +kernel))) rfl)
theorem zv_X8_worthOfRun : Cond.selects yX8_worthOfRun.cls yX8_worthOfRun yX8_worthOfRun ∈ zTb := zp_6 (List.mem_of_getElem? (i := 0) rfl)
theorem zd_X8_worthOfRun : yX8_worthOfRun.cls ≠ "java/lang/invoke/MethodHandle" ∧ yX8_worthOfRun.cls ≠ "java/lang/invoke/VarHandle" ∧ (parseMethodDescriptor yX8_worthOfRun.desc).map (fun d => d.parameters.length) = some 3 := by decide +kernel
theorem klX8_297 : Cond.methodLink RX8 297 yX8_worthOfRun ∈ zTb := (zTb_mem (zm_6 (List.mem_of_getElem? (i := 200) (by decide +kernel))) rfl)
theorem kvX8_297 : zCv RX8 297 yX8_worthOfRun cX8_worthOfRun 4 (some .int) 3 8 := ⟨⟨zc_X8_worthOfRun, zi_X8_worthOfRun, by decide, zd_X8_worthOfRun, (Or.inl klX8_297)⟩, zx_X8_worthOfRun, zv_X8_worthOfRun, rfl⟩
theorem zc_X1_gather : Cond.code yX1_gather cX1_gather 6 (none) ∈ zTb := (zTb_mem (zm_7 (List.mem_of_getElem? (i := 16) (by decide +kernel))) rfl)
theorem zi_X1_gather : Cond.initialized yX1_gather.cls ∈ zTb := (zTb_mem (zm_1 (List.mem_of_getElem? (i := 30) (by decide +kernel))) rfl)
theorem zx_X1_gather : Cond.instanceMethod yX1_gather ∈ zTb := (zTb_mem (zm_7 (List.mem_of_getElem? (i := 15) (by decide +kernel))) rfl)
theorem zv_X1_gather : Cond.selects yX1_gather.cls yX1_gather yX1_gather ∈ zTb := zp_6 (List.mem_of_getElem? (i := 1) rfl)
theorem zd_X1_gather : yX1_gather.cls ≠ "java/lang/invoke/MethodHandle" ∧ yX1_gather.cls ≠ "java/lang/invoke/VarHandle" ∧ (parseMethodDescriptor yX1_gather.desc).map (fun d => d.parameters.length) = some 3 := by decide +kernel
theorem kvX8_305 : zCv RX8 305 yX1_gather cX1_gather 6 (none) 3 1 := ⟨⟨zc_X1_gather, zi_X1_gather, by decide, zd_X1_gather, (Or.inr ⟨"TwoHandles", (List.mem_filter.mpr ⟨zm_7 (List.mem_of_getElem? (i := 13) (by decide +kernel)), rfl⟩)⟩)⟩, zx_X1_gather, zv_X1_gather, rfl⟩
theorem zc_X1_mostWorks : Cond.code yX1_mostWorks cX1_mostWorks 7 (some .int) ∈ zTb := (zTb_mem (zm_7 (List.mem_of_getElem? (i := 49) (by decide +kernel))) rfl)
theorem zi_X1_mostWorks : Cond.initialized yX1_mostWorks.cls ∈ zTb := (zTb_mem (zm_1 (List.mem_of_getElem? (i := 30) (by decide +kernel))) rfl)
theorem zx_X1_mostWorks : Cond.instanceMethod yX1_mostWorks ∈ zTb := (zTb_mem (zm_7 (List.mem_of_getElem? (i := 48) (by decide +kernel))) rfl)
theorem zv_X1_mostWorks : Cond.selects yX1_mostWorks.cls yX1_mostWorks yX1_mostWorks ∈ zTb := zp_6 (List.mem_of_getElem? (i := 7) rfl)
theorem zd_X1_mostWorks : yX1_mostWorks.cls ≠ "java/lang/invoke/MethodHandle" ∧ yX1_mostWorks.cls ≠ "java/lang/invoke/VarHandle" ∧ (parseMethodDescriptor yX1_mostWorks.desc).map (fun d => d.parameters.length) = some 0 := by decide +kernel
theorem kvX8_309 : zCv RX8 309 yX1_mostWorks cX1_mostWorks 7 (some .int) 0 1 := ⟨⟨zc_X1_mostWorks, zi_X1_mostWorks, by decide, zd_X1_mostWorks, (Or.inr ⟨"TwoHandles", (List.mem_filter.mpr ⟨zm_7 (List.mem_of_getElem? (i := 46) (by decide +kernel)), rfl⟩)⟩)⟩, zx_X1_mostWorks, zv_X1_mostWorks, rfl⟩
theorem zc_X0_draw : Cond.code yX0_draw cX0_draw 5 (none) ∈ zTb := (zTb_mem (zm_7 (List.mem_of_getElem? (i := 65) (by decide +kernel))) rfl)
theorem zi_X0_draw : Cond.initialized yX0_draw.cls ∈ zTb := (zTb_mem (zm_1 (List.mem_of_getElem? (i := 6) (by decide +kernel))) rfl)
theorem zx_X0_draw : Cond.instanceMethod yX0_draw ∈ zTb := (zTb_mem (zm_7 (List.mem_of_getElem? (i := 64) (by decide +kernel))) rfl)
theorem zv_X0_draw : Cond.selects yX0_draw.cls yX0_draw yX0_draw ∈ zTb := zp_6 (List.mem_of_getElem? (i := 9) rfl)
theorem zd_X0_draw : yX0_draw.cls ≠ "java/lang/invoke/MethodHandle" ∧ yX0_draw.cls ≠ "java/lang/invoke/VarHandle" ∧ (parseMethodDescriptor yX0_draw.desc).map (fun d => d.parameters.length) = some 3 := by decide +kernel
theorem kvX8_316 : zCv RX8 316 yX0_draw cX0_draw 5 (none) 3 0 := ⟨⟨zc_X0_draw, zi_X0_draw, by decide, zd_X0_draw, (Or.inr ⟨"TwoHandles", (List.mem_filter.mpr ⟨zm_7 (List.mem_of_getElem? (i := 62) (by decide +kernel)), rfl⟩)⟩)⟩, zx_X0_draw, zv_X0_draw, rfl⟩
theorem zc_X0_twos : Cond.code yX0_twos cX0_twos 3 (some .int) ∈ zTb := (zTb_mem (zm_7 (List.mem_of_getElem? (i := 70) (by decide +kernel))) rfl)
theorem zi_X0_twos : Cond.initialized yX0_twos.cls ∈ zTb := (zTb_mem (zm_1 (List.mem_of_getElem? (i := 6) (by decide +kernel))) rfl)
theorem zx_X0_twos : Cond.instanceMethod yX0_twos ∈ zTb := (zTb_mem (zm_7 (List.mem_of_getElem? (i := 69) (by decide +kernel))) rfl)
theorem zv_X0_twos : Cond.selects yX0_twos.cls yX0_twos yX0_twos ∈ zTb := zp_6 (List.mem_of_getElem? (i := 10) rfl)
theorem zd_X0_twos : yX0_twos.cls ≠ "java/lang/invoke/MethodHandle" ∧ yX0_twos.cls ≠ "java/lang/invoke/VarHandle" ∧ (parseMethodDescriptor yX0_twos.desc).map (fun d => d.parameters.length) = some 0 := by decide +kernel
theorem kvX8_319 : zCv RX8 319 yX0_twos cX0_twos 3 (some .int) 0 0 := ⟨⟨zc_X0_twos, zi_X0_twos, by decide, zd_X0_twos, (Or.inr ⟨"TwoHandles", (List.mem_filter.mpr ⟨zm_7 (List.mem_of_getElem? (i := 67) (by decide +kernel)), rfl⟩)⟩)⟩, zx_X0_twos, zv_X0_twos, rfl⟩
theorem zc_X0_threes : Cond.code yX0_threes cX0_threes 5 (some .int) ∈ zTb := (zTb_mem (zm_7 (List.mem_of_getElem? (i := 75) (by decide +kernel))) rfl)
theorem zi_X0_threes : Cond.initialized yX0_threes.cls ∈ zTb := (zTb_mem (zm_1 (List.mem_of_getElem? (i := 6) (by decide +kernel))) rfl)
theorem zx_X0_threes : Cond.instanceMethod yX0_threes ∈ zTb := (zTb_mem (zm_7 (List.mem_of_getElem? (i := 74) (by decide +kernel))) rfl)
theorem zv_X0_threes : Cond.selects yX0_threes.cls yX0_threes yX0_threes ∈ zTb := zp_6 (List.mem_of_getElem? (i := 11) rfl)
theorem zd_X0_threes : yX0_threes.cls ≠ "java/lang/invoke/MethodHandle" ∧ yX0_threes.cls ≠ "java/lang/invoke/VarHandle" ∧ (parseMethodDescriptor yX0_threes.desc).map (fun d => d.parameters.length) = some 0 := by decide +kernel
theorem kvX8_322 : zCv RX8 322 yX0_threes cX0_threes 5 (some .int) 0 0 := ⟨⟨zc_X0_threes, zi_X0_threes, by decide, zd_X0_threes, (Or.inr ⟨"TwoHandles", (List.mem_filter.mpr ⟨zm_7 (List.mem_of_getElem? (i := 72) (by decide +kernel)), rfl⟩)⟩)⟩, zx_X0_threes, zv_X0_threes, rfl⟩
theorem zc_X8_needStake : Cond.code yX8_needStake cX8_needStake 2 (none) ∈ zTb := (zTb_mem (zm_7 (List.mem_of_getElem? (i := 97) (by decide +kernel))) rfl)
theorem zi_X8_needStake : Cond.initialized yX8_needStake.cls ∈ zTb := (zTb_mem (zm_1 (List.mem_of_getElem? (i := 1) (by decide +kernel))) rfl)
theorem zx_X8_needStake : Cond.instanceMethod yX8_needStake ∈ zTb := (zTb_mem (zm_7 (List.mem_of_getElem? (i := 96) (by decide +kernel))) rfl)
theorem zv_X8_needStake : Cond.selects yX8_needStake.cls yX8_needStake yX8_needStake ∈ zTb := zp_6 (List.mem_of_getElem? (i := 13) rfl)
theorem zd_X8_needStake : yX8_needStake.cls ≠ "java/lang/invoke/MethodHandle" ∧ yX8_needStake.cls ≠ "java/lang/invoke/VarHandle" ∧ (parseMethodDescriptor yX8_needStake.desc).map (fun d => d.parameters.length) = some 1 := by decide +kernel
theorem klX8_325 : Cond.methodLink RX8 325 yX8_needStake ∈ zTb := (zTb_mem (zm_7 (List.mem_of_getElem? (i := 94) (by decide +kernel))) rfl)
theorem kvX8_325 : zCv RX8 325 yX8_needStake cX8_needStake 2 (none) 1 8 := ⟨⟨zc_X8_needStake, zi_X8_needStake, by decide, zd_X8_needStake, (Or.inl klX8_325)⟩, zx_X8_needStake, zv_X8_needStake, rfl⟩
theorem zc_X0_mostAtOneTime : Cond.code yX0_mostAtOneTime cX0_mostAtOneTime 6 (some .int) ∈ zTb := (zTb_mem (zm_7 (List.mem_of_getElem? (i := 110) (by decide +kernel))) rfl)
theorem zi_X0_mostAtOneTime : Cond.initialized yX0_mostAtOneTime.cls ∈ zTb := (zTb_mem (zm_1 (List.mem_of_getElem? (i := 6) (by decide +kernel))) rfl)
theorem zx_X0_mostAtOneTime : Cond.instanceMethod yX0_mostAtOneTime ∈ zTb := (zTb_mem (zm_7 (List.mem_of_getElem? (i := 109) (by decide +kernel))) rfl)
theorem zv_X0_mostAtOneTime : Cond.selects yX0_mostAtOneTime.cls yX0_mostAtOneTime yX0_mostAtOneTime ∈ zTb := zp_6 (List.mem_of_getElem? (i := 14) rfl)
theorem zd_X0_mostAtOneTime : yX0_mostAtOneTime.cls ≠ "java/lang/invoke/MethodHandle" ∧ yX0_mostAtOneTime.cls ≠ "java/lang/invoke/VarHandle" ∧ (parseMethodDescriptor yX0_mostAtOneTime.desc).map (fun d => d.parameters.length) = some 0 := by decide +kernel
theorem kvX8_333 : zCv RX8 333 yX0_mostAtOneTime cX0_mostAtOneTime 6 (some .int) 0 0 := ⟨⟨zc_X0_mostAtOneTime, zi_X0_mostAtOneTime, by decide, zd_X0_mostAtOneTime, (Or.inr ⟨"TwoHandles", (List.mem_filter.mpr ⟨zm_7 (List.mem_of_getElem? (i := 107) (by decide +kernel)), rfl⟩)⟩)⟩, zx_X0_mostAtOneTime, zv_X0_mostAtOneTime, rfl⟩
theorem zc_X0_greatestCalm : Cond.code yX0_greatestCalm cX0_greatestCalm 3 (some .int) ∈ zTb := (zTb_mem (zm_7 (List.mem_of_getElem? (i := 123) (by decide +kernel))) rfl)
theorem zi_X0_greatestCalm : Cond.initialized yX0_greatestCalm.cls ∈ zTb := (zTb_mem (zm_1 (List.mem_of_getElem? (i := 6) (by decide +kernel))) rfl)
theorem zx_X0_greatestCalm : Cond.instanceMethod yX0_greatestCalm ∈ zTb := (zTb_mem (zm_7 (List.mem_of_getElem? (i := 122) (by decide +kernel))) rfl)
theorem zv_X0_greatestCalm : Cond.selects yX0_greatestCalm.cls yX0_greatestCalm yX0_greatestCalm ∈ zTb := zp_6 (List.mem_of_getElem? (i := 15) rfl)
theorem zd_X0_greatestCalm : yX0_greatestCalm.cls ≠ "java/lang/invoke/MethodHandle" ∧ yX0_greatestCalm.cls ≠ "java/lang/invoke/VarHandle" ∧ (parseMethodDescriptor yX0_greatestCalm.desc).map (fun d => d.parameters.length) = some 0 := by decide +kernel
theorem kvX8_336 : zCv RX8 336 yX0_greatestCalm cX0_greatestCalm 3 (some .int) 0 0 := ⟨⟨zc_X0_greatestCalm, zi_X0_greatestCalm, by decide, zd_X0_greatestCalm, (Or.inr ⟨"TwoHandles", (List.mem_filter.mpr ⟨zm_7 (List.mem_of_getElem? (i := 120) (by decide +kernel)), rfl⟩)⟩)⟩, zx_X0_greatestCalm, zv_X0_greatestCalm, rfl⟩
theorem zc_X8_isPerson : Cond.code yX8_isPerson cX8_isPerson 2 (some .boolean) ∈ zTb := (zTb_mem (zm_5 (List.mem_of_getElem? (i := 40) (by decide +kernel))) rfl)
theorem zi_X8_isPerson : Cond.initialized yX8_isPerson.cls ∈ zTb := (zTb_mem (zm_1 (List.mem_of_getElem? (i := 1) (by decide +kernel))) rfl)
theorem zx_X8_isPerson : Cond.instanceMethod yX8_isPerson ∈ zTb := (zTb_mem (zm_5 (List.mem_of_getElem? (i := 39) (by decide +kernel))) rfl)
theorem zv_X8_isPerson : Cond.selects yX8_isPerson.cls yX8_isPerson yX8_isPerson ∈ zTb := zp_3 (List.mem_of_getElem? (i := 9) rfl)
theorem zd_X8_isPerson : yX8_isPerson.cls ≠ "java/lang/invoke/MethodHandle" ∧ yX8_isPerson.cls ≠ "java/lang/invoke/VarHandle" ∧ (parseMethodDescriptor yX8_isPerson.desc).map (fun d => d.parameters.length) = some 1 := by decide +kernel
theorem klX8_339 : Cond.methodLink RX8 339 yX8_isPerson ∈ zTb := (zTb_mem (zm_5 (List.mem_of_getElem? (i := 37) (by decide +kernel))) rfl)
theorem kvX8_339 : zCv RX8 339 yX8_isPerson cX8_isPerson 2 (some .boolean) 1 8 := ⟨⟨zc_X8_isPerson, zi_X8_isPerson, by decide, zd_X8_isPerson, (Or.inl klX8_339)⟩, zx_X8_isPerson, zv_X8_isPerson, rfl⟩
theorem zc_X7_families : Cond.code yX7_families cX7_families 3 (some .int) ∈ zTb := (zTb_mem (zm_7 (List.mem_of_getElem? (i := 138) (by decide +kernel))) rfl)
theorem zi_X7_families : Cond.initialized yX7_families.cls ∈ zTb := (zTb_mem (zm_1 (List.mem_of_getElem? (i := 2) (by decide +kernel))) rfl)
theorem zx_X7_families : Cond.instanceMethod yX7_families ∈ zTb := (zTb_mem (zm_7 (List.mem_of_getElem? (i := 137) (by decide +kernel))) rfl)
theorem zv_X7_families : Cond.selects yX7_families.cls yX7_families yX7_families ∈ zTb := zp_7 (List.mem_of_getElem? (i := 1) rfl)
theorem zd_X7_families : yX7_families.cls ≠ "java/lang/invoke/MethodHandle" ∧ yX7_families.cls ≠ "java/lang/invoke/VarHandle" ∧ (parseMethodDescriptor yX7_families.desc).map (fun d => d.parameters.length) = some 0 := by decide +kernel
theorem kvX8_344 : zCv RX8 344 yX7_families cX7_families 3 (some .int) 0 7 := ⟨⟨zc_X7_families, zi_X7_families, by decide, zd_X7_families, (Or.inr ⟨"TwoHandles", (List.mem_filter.mpr ⟨zm_7 (List.mem_of_getElem? (i := 135) (by decide +kernel)), rfl⟩)⟩)⟩, zx_X7_families, zv_X7_families, rfl⟩
theorem kvX8_347 : zCv RX8 347 yX7_familyOf cX7_familyOf 5 (some .int) 1 7 := ⟨⟨zc_X7_familyOf, zi_X7_familyOf, by decide, zd_X7_familyOf, (Or.inr ⟨"TwoHandles", (List.mem_filter.mpr ⟨zm_7 (List.mem_of_getElem? (i := 144) (by decide +kernel)), rfl⟩)⟩)⟩, zx_X7_familyOf, zv_X7_familyOf, rfl⟩
theorem zc_X6_seekTwoDays : Cond.code yX6_seekTwoDays cX6_seekTwoDays 2 (none) ∈ zTb := (zTb_mem (zm_7 (List.mem_of_getElem? (i := 176) (by decide +kernel))) rfl)
theorem zi_X6_seekTwoDays : Cond.initialized yX6_seekTwoDays.cls ∈ zTb := (zTb_mem (zm_1 (List.mem_of_getElem? (i := 8) (by decide +kernel))) rfl)
theorem zx_X6_seekTwoDays : Cond.instanceMethod yX6_seekTwoDays ∈ zTb := (zTb_mem (zm_7 (List.mem_of_getElem? (i := 175) (by decide +kernel))) rfl)
theorem zv_X6_seekTwoDays : Cond.selects yX6_seekTwoDays.cls yX6_seekTwoDays yX6_seekTwoDays ∈ zTb := zp_7 (List.mem_of_getElem? (i := 3) rfl)
theorem zd_X6_seekTwoDays : yX6_seekTwoDays.cls ≠ "java/lang/invoke/MethodHandle" ∧ yX6_seekTwoDays.cls ≠ "java/lang/invoke/VarHandle" ∧ (parseMethodDescriptor yX6_seekTwoDays.desc).map (fun d => d.parameters.length) = some 1 := by decide +kernel
theorem kvX8_353 : zCv RX8 353 yX6_seekTwoDays cX6_seekTwoDays 2 (none) 1 6 := ⟨⟨zc_X6_seekTwoDays, zi_X6_seekTwoDays, by decide, zd_X6_seekTwoDays, (Or.inr ⟨"TwoHandles", (List.mem_filter.mpr ⟨zm_7 (List.mem_of_getElem? (i := 173) (by decide +kernel)), rfl⟩)⟩)⟩, zx_X6_seekTwoDays, zv_X6_seekTwoDays, rfl⟩
theorem zc_X5_copyRows : Cond.code yX5_copyRows cX5_copyRows 2 (none) ∈ zTb := (zTb_mem (zm_4 (List.mem_of_getElem? (i := 92) (by decide +kernel))) rfl)
theorem zi_X5_copyRows : Cond.initialized yX5_copyRows.cls ∈ zTb := (zTb_mem (zm_1 (List.mem_of_getElem? (i := 4) (by decide +kernel))) rfl)
theorem zx_X5_copyRows : Cond.instanceMethod yX5_copyRows ∈ zTb := (zTb_mem (zm_4 (List.mem_of_getElem? (i := 91) (by decide +kernel))) rfl)
theorem zv_X5_copyRows : Cond.selects yX5_copyRows.cls yX5_copyRows yX5_copyRows ∈ zTb := zp_1 (List.mem_of_getElem? (i := 14) rfl)
theorem zd_X5_copyRows : yX5_copyRows.cls ≠ "java/lang/invoke/MethodHandle" ∧ yX5_copyRows.cls ≠ "java/lang/invoke/VarHandle" ∧ (parseMethodDescriptor yX5_copyRows.desc).map (fun d => d.parameters.length) = some 1 := by decide +kernel
theorem kvX8_356 : zCv RX8 356 yX5_copyRows cX5_copyRows 2 (none) 1 5 := ⟨⟨zc_X5_copyRows, zi_X5_copyRows, by decide, zd_X5_copyRows, (Or.inr ⟨"TwoHandles", (List.mem_filter.mpr ⟨zm_4 (List.mem_of_getElem? (i := 89) (by decide +kernel)), rfl⟩)⟩)⟩, zx_X5_copyRows, zv_X5_copyRows, rfl⟩
theorem kvX8_383 : zCv RX8 383 yX5_rivalsOf cX5_rivalsOf 7 (some .int) 3 5 := ⟨⟨zc_X5_rivalsOf, zi_X5_rivalsOf, by decide, zd_X5_rivalsOf, (Or.inr ⟨"TwoHandles", (List.mem_filter.mpr ⟨zm_6 (List.mem_of_getElem? (i := 72) (by decide +kernel)), rfl⟩)⟩)⟩, zx_X5_rivalsOf, zv_X5_rivalsOf, rfl⟩
theorem kvX8_386 : zCv RX8 386 yX5_putThought cX5_putThought 4 (none) 3 5 := ⟨⟨zc_X5_putThought, zi_X5_putThought, by decide, zd_X5_putThought, (Or.inr ⟨"TwoHandles", (List.mem_filter.mpr ⟨zm_6 (List.mem_of_getElem? (i := 76) (by decide +kernel)), rfl⟩)⟩)⟩, zx_X5_putThought, zv_X5_putThought, rfl⟩
theorem klX8_392 : Cond.methodLink RX8 392 yX8_lesserBehind ∈ zTb := (zTb_mem (zm_5 (List.mem_of_getElem? (i := 135) (by decide +kernel))) rfl)
theorem ksX8_392 : zCs RX8 392 yX8_lesserBehind cX8_lesserBehind 6 (some .int) 4 := ⟨⟨zc_X8_lesserBehind, zi_X8_lesserBehind, by decide, zd_X8_lesserBehind, (Or.inl klX8_392)⟩, zs_X8_lesserBehind⟩
theorem zc_X9_byteAt : Cond.code yX9_byteAt cX9_byteAt 2 (some .int) ∈ zTb := (zTb_mem (zm_8 (List.mem_of_getElem? (i := 125) (by decide +kernel))) rfl)
theorem zi_X9_byteAt : Cond.initialized yX9_byteAt.cls ∈ zTb := (zTb_mem (zm_1 (List.mem_of_getElem? (i := 9) (by decide +kernel))) rfl)
theorem zx_X9_byteAt : Cond.instanceMethod yX9_byteAt ∈ zTb := (zTb_mem (zm_8 (List.mem_of_getElem? (i := 124) (by decide +kernel))) rfl)
theorem zv_X9_byteAt : Cond.selects yX9_byteAt.cls yX9_byteAt yX9_byteAt ∈ zTb := zp_7 (List.mem_of_getElem? (i := 9) rfl)
theorem zd_X9_byteAt : yX9_byteAt.cls ≠ "java/lang/invoke/MethodHandle" ∧ yX9_byteAt.cls ≠ "java/lang/invoke/VarHandle" ∧ (parseMethodDescriptor yX9_byteAt.desc).map (fun d => d.parameters.length) = some 1 := by decide +kernel
theorem klX9_118 : Cond.methodLink RX9 118 yX9_byteAt ∈ zTb := (zTb_mem (zm_8 (List.mem_of_getElem? (i := 122) (by decide +kernel))) rfl)
theorem kvX9_118 : zCv RX9 118 yX9_byteAt cX9_byteAt 2 (some .int) 1 9 := ⟨⟨zc_X9_byteAt, zi_X9_byteAt, by decide, zd_X9_byteAt, (Or.inl klX9_118)⟩, zx_X9_byteAt, zv_X9_byteAt, rfl⟩
theorem zc_X9_blanks : Cond.code yX9_blanks cX9_blanks 1 (none) ∈ zTb := (zTb_mem (zm_8 (List.mem_of_getElem? (i := 121) (by decide +kernel))) rfl)
theorem zi_X9_blanks : Cond.initialized yX9_blanks.cls ∈ zTb := (zTb_mem (zm_1 (List.mem_of_getElem? (i := 9) (by decide +kernel))) rfl)
theorem zx_X9_blanks : Cond.instanceMethod yX9_blanks ∈ zTb := (zTb_mem (zm_8 (List.mem_of_getElem? (i := 120) (by decide +kernel))) rfl)
theorem zv_X9_blanks : Cond.selects yX9_blanks.cls yX9_blanks yX9_blanks ∈ zTb := zp_7 (List.mem_of_getElem? (i := 8) rfl)
theorem zd_X9_blanks : yX9_blanks.cls ≠ "java/lang/invoke/MethodHandle" ∧ yX9_blanks.cls ≠ "java/lang/invoke/VarHandle" ∧ (parseMethodDescriptor yX9_blanks.desc).map (fun d => d.parameters.length) = some 0 := by decide +kernel
theorem klX9_128 : Cond.methodLink RX9 128 yX9_blanks ∈ zTb := (zTb_mem (zm_8 (List.mem_of_getElem? (i := 118) (by decide +kernel))) rfl)
theorem kvX9_128 : zCv RX9 128 yX9_blanks cX9_blanks 1 (none) 0 9 := ⟨⟨zc_X9_blanks, zi_X9_blanks, by decide, zd_X9_blanks, (Or.inl klX9_128)⟩, zx_X9_blanks, zv_X9_blanks, rfl⟩
theorem zc_X9_isDigit : Cond.code yX9_isDigit cX9_isDigit 1 (some .boolean) ∈ zTb := (zTb_mem (zm_8 (List.mem_of_getElem? (i := 143) (by decide +kernel))) rfl)
theorem zi_X9_isDigit : Cond.initialized yX9_isDigit.cls ∈ zTb := (zTb_mem (zm_1 (List.mem_of_getElem? (i := 9) (by decide +kernel))) rfl)
theorem zs_X9_isDigit : Cond.static yX9_isDigit ∈ zTb := (zTb_mem (zm_8 (List.mem_of_getElem? (i := 142) (by decide +kernel))) rfl)
theorem zd_X9_isDigit : yX9_isDigit.cls ≠ "java/lang/invoke/MethodHandle" ∧ yX9_isDigit.cls ≠ "java/lang/invoke/VarHandle" ∧ (parseMethodDescriptor yX9_isDigit.desc).map (fun d => d.parameters.length) = some 1 := by decide +kernel
theorem klX9_131 : Cond.methodLink RX9 131 yX9_isDigit ∈ zTb := (zTb_mem (zm_8 (List.mem_of_getElem? (i := 141) (by decide +kernel))) rfl)
theorem ksX9_131 : zCs RX9 131 yX9_isDigit cX9_isDigit 1 (some .boolean) 1 := ⟨⟨zc_X9_isDigit, zi_X9_isDigit, by decide, zd_X9_isDigit, (Or.inl klX9_131)⟩, zs_X9_isDigit⟩
theorem zc_X9_wrong : Cond.code yX9_wrong cX9_wrong 3 (none) ∈ zTb := (zTb_mem (zm_8 (List.mem_of_getElem? (i := 132) (by decide +kernel))) rfl)
theorem zi_X9_wrong : Cond.initialized yX9_wrong.cls ∈ zTb := (zTb_mem (zm_1 (List.mem_of_getElem? (i := 9) (by decide +kernel))) rfl)
theorem zx_X9_wrong : Cond.instanceMethod yX9_wrong ∈ zTb := (zTb_mem (zm_8 (List.mem_of_getElem? (i := 131) (by decide +kernel))) rfl)
theorem zv_X9_wrong : Cond.selects yX9_wrong.cls yX9_wrong yX9_wrong ∈ zTb := zp_7 (List.mem_of_getElem? (i := 10) rfl)
theorem zd_X9_wrong : yX9_wrong.cls ≠ "java/lang/invoke/MethodHandle" ∧ yX9_wrong.cls ≠ "java/lang/invoke/VarHandle" ∧ (parseMethodDescriptor yX9_wrong.desc).map (fun d => d.parameters.length) = some 2 := by decide +kernel
theorem klX9_135 : Cond.methodLink RX9 135 yX9_wrong ∈ zTb := (zTb_mem (zm_8 (List.mem_of_getElem? (i := 129) (by decide +kernel))) rfl)
theorem kvX9_135 : zCv RX9 135 yX9_wrong cX9_wrong 3 (none) 2 9 := ⟨⟨zc_X9_wrong, zi_X9_wrong, by decide, zd_X9_wrong, (Or.inl klX9_135)⟩, zx_X9_wrong, zv_X9_wrong, rfl⟩
theorem zc_X9_in : Cond.code yX9_in cX9_in 3 (some .boolean) ∈ zTb := (zTb_mem (zm_8 (List.mem_of_getElem? (i := 101) (by decide +kernel))) rfl)
theorem zi_X9_in : Cond.initialized yX9_in.cls ∈ zTb := (zTb_mem (zm_1 (List.mem_of_getElem? (i := 9) (by decide +kernel))) rfl)
theorem zs_X9_in : Cond.static yX9_in ∈ zTb := (zTb_mem (zm_8 (List.mem_of_getElem? (i := 100) (by decide +kernel))) rfl)
theorem zd_X9_in : yX9_in.cls ≠ "java/lang/invoke/MethodHandle" ∧ yX9_in.cls ≠ "java/lang/invoke/VarHandle" ∧ (parseMethodDescriptor yX9_in.desc).map (fun d => d.parameters.length) = some 3 := by decide +kernel
theorem klX9_140 : Cond.methodLink RX9 140 yX9_in ∈ zTb := (zTb_mem (zm_8 (List.mem_of_getElem? (i := 99) (by decide +kernel))) rfl)
theorem ksX9_140 : zCs RX9 140 yX9_in cX9_in 3 (some .boolean) 3 := ⟨⟨zc_X9_in, zi_X9_in, by decide, zd_X9_in, (Or.inl klX9_140)⟩, zs_X9_in⟩
theorem zc_X9_wordHere : Cond.code yX9_wordHere cX9_wordHere 3 (some .int) ∈ zTb := (zTb_mem (zm_8 (List.mem_of_getElem? (i := 117) (by decide +kernel))) rfl)
theorem zi_X9_wordHere : Cond.initialized yX9_wordHere.cls ∈ zTb := (zTb_mem (zm_1 (List.mem_of_getElem? (i := 9) (by decide +kernel))) rfl)
theorem zx_X9_wordHere : Cond.instanceMethod yX9_wordHere ∈ zTb := (zTb_mem (zm_8 (List.mem_of_getElem? (i := 116) (by decide +kernel))) rfl)
theorem zv_X9_wordHere : Cond.selects yX9_wordHere.cls yX9_wordHere yX9_wordHere ∈ zTb := zp_7 (List.mem_of_getElem? (i := 7) rfl)
theorem zd_X9_wordHere : yX9_wordHere.cls ≠ "java/lang/invoke/MethodHandle" ∧ yX9_wordHere.cls ≠ "java/lang/invoke/VarHandle" ∧ (parseMethodDescriptor yX9_wordHere.desc).map (fun d => d.parameters.length) = some 0 := by decide +kernel
theorem klX9_144 : Cond.methodLink RX9 144 yX9_wordHere ∈ zTb := (zTb_mem (zm_8 (List.mem_of_getElem? (i := 114) (by decide +kernel))) rfl)
theorem kvX9_144 : zCv RX9 144 yX9_wordHere cX9_wordHere 3 (some .int) 0 9 := ⟨⟨zc_X9_wordHere, zi_X9_wordHere, by decide, zd_X9_wordHere, (Or.inl klX9_144)⟩, zx_X9_wordHere, zv_X9_wordHere, rfl⟩
theorem zc_X9_named : Cond.code yX9_named cX9_named 7 (some .int) ∈ zTb := (zTb_mem (zm_8 (List.mem_of_getElem? (i := 128) (by decide +kernel))) rfl)
theorem zi_X9_named : Cond.initialized yX9_named.cls ∈ zTb := (zTb_mem (zm_1 (List.mem_of_getElem? (i := 9) (by decide +kernel))) rfl)
theorem zs_X9_named : Cond.static yX9_named ∈ zTb := (zTb_mem (zm_8 (List.mem_of_getElem? (i := 127) (by decide +kernel))) rfl)
theorem zd_X9_named : yX9_named.cls ≠ "java/lang/invoke/MethodHandle" ∧ yX9_named.cls ≠ "java/lang/invoke/VarHandle" ∧ (parseMethodDescriptor yX9_named.desc).map (fun d => d.parameters.length) = some 6 := by decide +kernel
theorem klX9_148 : Cond.methodLink RX9 148 yX9_named ∈ zTb := (zTb_mem (zm_8 (List.mem_of_getElem? (i := 126) (by decide +kernel))) rfl)
theorem ksX9_148 : zCs RX9 148 yX9_named cX9_named 7 (some .int) 6 := ⟨⟨zc_X9_named, zi_X9_named, by decide, zd_X9_named, (Or.inl klX9_148)⟩, zs_X9_named⟩
theorem zc_X9_isWord : Cond.code yX9_isWord cX9_isWord 7 (some .boolean) ∈ zTb := (zTb_mem (zm_8 (List.mem_of_getElem? (i := 113) (by decide +kernel))) rfl)
theorem zi_X9_isWord : Cond.initialized yX9_isWord.cls ∈ zTb := (zTb_mem (zm_1 (List.mem_of_getElem? (i := 9) (by decide +kernel))) rfl)
theorem zx_X9_isWord : Cond.instanceMethod yX9_isWord ∈ zTb := (zTb_mem (zm_8 (List.mem_of_getElem? (i := 112) (by decide +kernel))) rfl)
theorem zv_X9_isWord : Cond.selects yX9_isWord.cls yX9_isWord yX9_isWord ∈ zTb := zp_7 (List.mem_of_getElem? (i := 6) rfl)
theorem zd_X9_isWord : yX9_isWord.cls ≠ "java/lang/invoke/MethodHandle" ∧ yX9_isWord.cls ≠ "java/lang/invoke/VarHandle" ∧ (parseMethodDescriptor yX9_isWord.desc).map (fun d => d.parameters.length) = some 6 := by decide +kernel
theorem klX9_152 : Cond.methodLink RX9 152 yX9_isWord ∈ zTb := (zTb_mem (zm_8 (List.mem_of_getElem? (i := 110) (by decide +kernel))) rfl)
theorem kvX9_152 : zCv RX9 152 yX9_isWord cX9_isWord 7 (some .boolean) 6 9 := ⟨⟨zc_X9_isWord, zi_X9_isWord, by decide, zd_X9_isWord, (Or.inl klX9_152)⟩, zx_X9_isWord, zv_X9_isWord, rfl⟩
theorem zc_X9_skipWord : Cond.code yX9_skipWord cX9_skipWord 1 (none) ∈ zTb := (zTb_mem (zm_8 (List.mem_of_getElem? (i := 136) (by decide +kernel))) rfl)
theorem zi_X9_skipWord : Cond.initialized yX9_skipWord.cls ∈ zTb := (zTb_mem (zm_1 (List.mem_of_getElem? (i := 9) (by decide +kernel))) rfl)
theorem zx_X9_skipWord : Cond.instanceMethod yX9_skipWord ∈ zTb := (zTb_mem (zm_8 (List.mem_of_getElem? (i := 135) (by decide +kernel))) rfl)
theorem zv_X9_skipWord : Cond.selects yX9_skipWord.cls yX9_skipWord yX9_skipWord ∈ zTb := zp_7 (List.mem_of_getElem? (i := 11) rfl)
theorem zd_X9_skipWord : yX9_skipWord.cls ≠ "java/lang/invoke/MethodHandle" ∧ yX9_skipWord.cls ≠ "java/lang/invoke/VarHandle" ∧ (parseMethodDescriptor yX9_skipWord.desc).map (fun d => d.parameters.length) = some 0 := by decide +kernel
theorem klX9_156 : Cond.methodLink RX9 156 yX9_skipWord ∈ zTb := (zTb_mem (zm_8 (List.mem_of_getElem? (i := 133) (by decide +kernel))) rfl)
theorem kvX9_156 : zCv RX9 156 yX9_skipWord cX9_skipWord 1 (none) 0 9 := ⟨⟨zc_X9_skipWord, zi_X9_skipWord, by decide, zd_X9_skipWord, (Or.inl klX9_156)⟩, zx_X9_skipWord, zv_X9_skipWord, rfl⟩
theorem zc_X9_number : Cond.code yX9_number cX9_number 6 (some .int) ∈ zTb := (zTb_mem (zm_8 (List.mem_of_getElem? (i := 140) (by decide +kernel))) rfl)
theorem zi_X9_number : Cond.initialized yX9_number.cls ∈ zTb := (zTb_mem (zm_1 (List.mem_of_getElem? (i := 9) (by decide +kernel))) rfl)
theorem zx_X9_number : Cond.instanceMethod yX9_number ∈ zTb := (zTb_mem (zm_8 (List.mem_of_getElem? (i := 139) (by decide +kernel))) rfl)
theorem zv_X9_number : Cond.selects yX9_number.cls yX9_number yX9_number ∈ zTb := zp_7 (List.mem_of_getElem? (i := 12) rfl)
theorem zd_X9_number : yX9_number.cls ≠ "java/lang/invoke/MethodHandle" ∧ yX9_number.cls ≠ "java/lang/invoke/VarHandle" ∧ (parseMethodDescriptor yX9_number.desc).map (fun d => d.parameters.length) = some 3 := by decide +kernel
theorem klX9_159 : Cond.methodLink RX9 159 yX9_number ∈ zTb := (zTb_mem (zm_8 (List.mem_of_getElem? (i := 137) (by decide +kernel))) rfl)
theorem kvX9_159 : zCv RX9 159 yX9_number cX9_number 6 (some .int) 3 9 := ⟨⟨zc_X9_number, zi_X9_number, by decide, zd_X9_number, (Or.inl klX9_159)⟩, zx_X9_number, zv_X9_number, rfl⟩
theorem zc_X9_sign : Cond.code yX9_sign cX9_sign 2 (none) ∈ zTb := (zTb_mem (zm_8 (List.mem_of_getElem? (i := 148) (by decide +kernel))) rfl)
theorem zi_X9_sign : Cond.initialized yX9_sign.cls ∈ zTb := (zTb_mem (zm_1 (List.mem_of_getElem? (i := 9) (by decide +kernel))) rfl)
theorem zx_X9_sign : Cond.instanceMethod yX9_sign ∈ zTb := (zTb_mem (zm_8 (List.mem_of_getElem? (i := 147) (by decide +kernel))) rfl)
theorem zv_X9_sign : Cond.selects yX9_sign.cls yX9_sign yX9_sign ∈ zTb := zp_7 (List.mem_of_getElem? (i := 13) rfl)
theorem zd_X9_sign : yX9_sign.cls ≠ "java/lang/invoke/MethodHandle" ∧ yX9_sign.cls ≠ "java/lang/invoke/VarHandle" ∧ (parseMethodDescriptor yX9_sign.desc).map (fun d => d.parameters.length) = some 1 := by decide +kernel
theorem klX9_163 : Cond.methodLink RX9 163 yX9_sign ∈ zTb := (zTb_mem (zm_8 (List.mem_of_getElem? (i := 145) (by decide +kernel))) rfl)
theorem kvX9_163 : zCv RX9 163 yX9_sign cX9_sign 2 (none) 1 9 := ⟨⟨zc_X9_sign, zi_X9_sign, by decide, zd_X9_sign, (Or.inl klX9_163)⟩, zx_X9_sign, zv_X9_sign, rfl⟩
theorem zc_X9_kindHere : Cond.code yX9_kindHere cX9_kindHere 1 (some .int) ∈ zTb := (zTb_mem (zm_8 (List.mem_of_getElem? (i := 156) (by decide +kernel))) rfl)
theorem zi_X9_kindHere : Cond.initialized yX9_kindHere.cls ∈ zTb := (zTb_mem (zm_1 (List.mem_of_getElem? (i := 9) (by decide +kernel))) rfl)
theorem zx_X9_kindHere : Cond.instanceMethod yX9_kindHere ∈ zTb := (zTb_mem (zm_8 (List.mem_of_getElem? (i := 155) (by decide +kernel))) rfl)
theorem zv_X9_kindHere : Cond.selects yX9_kindHere.cls yX9_kindHere yX9_kindHere ∈ zTb := zp_7 (List.mem_of_getElem? (i := 15) rfl)
theorem zd_X9_kindHere : yX9_kindHere.cls ≠ "java/lang/invoke/MethodHandle" ∧ yX9_kindHere.cls ≠ "java/lang/invoke/VarHandle" ∧ (parseMethodDescriptor yX9_kindHere.desc).map (fun d => d.parameters.length) = some 0 := by decide +kernel
theorem klX9_170 : Cond.methodLink RX9 170 yX9_kindHere ∈ zTb := (zTb_mem (zm_8 (List.mem_of_getElem? (i := 153) (by decide +kernel))) rfl)
theorem kvX9_170 : zCv RX9 170 yX9_kindHere cX9_kindHere 1 (some .int) 0 9 := ⟨⟨zc_X9_kindHere, zi_X9_kindHere, by decide, zd_X9_kindHere, (Or.inl klX9_170)⟩, zx_X9_kindHere, zv_X9_kindHere, rfl⟩
theorem zc_X9_readsPerson : Cond.code yX9_readsPerson cX9_readsPerson 3 (none) ∈ zTb := (zTb_mem (zm_8 (List.mem_of_getElem? (i := 160) (by decide +kernel))) rfl)
theorem zi_X9_readsPerson : Cond.initialized yX9_readsPerson.cls ∈ zTb := (zTb_mem (zm_1 (List.mem_of_getElem? (i := 9) (by decide +kernel))) rfl)
theorem zx_X9_readsPerson : Cond.instanceMethod yX9_readsPerson ∈ zTb := (zTb_mem (zm_8 (List.mem_of_getElem? (i := 159) (by decide +kernel))) rfl)
theorem zv_X9_readsPerson : Cond.selects yX9_readsPerson.cls yX9_readsPerson yX9_readsPerson ∈ zTb := zp_8 (List.mem_of_getElem? (i := 0) rfl)
theorem zd_X9_readsPerson : yX9_readsPerson.cls ≠ "java/lang/invoke/MethodHandle" ∧ yX9_readsPerson.cls ≠ "java/lang/invoke/VarHandle" ∧ (parseMethodDescriptor yX9_readsPerson.desc).map (fun d => d.parameters.length) = some 0 := by decide +kernel
theorem klX9_173 : Cond.methodLink RX9 173 yX9_readsPerson ∈ zTb := (zTb_mem (zm_8 (List.mem_of_getElem? (i := 157) (by decide +kernel))) rfl)
theorem kvX9_173 : zCv RX9 173 yX9_readsPerson cX9_readsPerson 3 (none) 0 9 := ⟨⟨zc_X9_readsPerson, zi_X9_readsPerson, by decide, zd_X9_readsPerson, (Or.inl klX9_173)⟩, zx_X9_readsPerson, zv_X9_readsPerson, rfl⟩
theorem zc_X9_readsOf : Cond.code yX9_readsOf cX9_readsOf 4 (none) ∈ zTb := (zTb_mem (zm_8 (List.mem_of_getElem? (i := 168) (by decide +kernel))) rfl)
theorem zi_X9_readsOf : Cond.initialized yX9_readsOf.cls ∈ zTb := (zTb_mem (zm_1 (List.mem_of_getElem? (i := 9) (by decide +kernel))) rfl)
theorem zx_X9_readsOf : Cond.instanceMethod yX9_readsOf ∈ zTb := (zTb_mem (zm_8 (List.mem_of_getElem? (i := 167) (by decide +kernel))) rfl)
theorem zv_X9_readsOf : Cond.selects yX9_readsOf.cls yX9_readsOf yX9_readsOf ∈ zTb := zp_8 (List.mem_of_getElem? (i := 2) rfl)
theorem zd_X9_readsOf : yX9_readsOf.cls ≠ "java/lang/invoke/MethodHandle" ∧ yX9_readsOf.cls ≠ "java/lang/invoke/VarHandle" ∧ (parseMethodDescriptor yX9_readsOf.desc).map (fun d => d.parameters.length) = some 1 := by decide +kernel
theorem klX9_176 : Cond.methodLink RX9 176 yX9_readsOf ∈ zTb := (zTb_mem (zm_8 (List.mem_of_getElem? (i := 165) (by decide +kernel))) rfl)
theorem kvX9_176 : zCv RX9 176 yX9_readsOf cX9_readsOf 4 (none) 1 9 := ⟨⟨zc_X9_readsOf, zi_X9_readsOf, by decide, zd_X9_readsOf, (Or.inl klX9_176)⟩, zx_X9_readsOf, zv_X9_readsOf, rfl⟩
theorem zc_X9_readsDoor : Cond.code yX9_readsDoor cX9_readsDoor 2 (none) ∈ zTb := (zTb_mem (zm_8 (List.mem_of_getElem? (i := 172) (by decide +kernel))) rfl)
theorem zi_X9_readsDoor : Cond.initialized yX9_readsDoor.cls ∈ zTb := (zTb_mem (zm_1 (List.mem_of_getElem? (i := 9) (by decide +kernel))) rfl)
theorem zx_X9_readsDoor : Cond.instanceMethod yX9_readsDoor ∈ zTb := (zTb_mem (zm_8 (List.mem_of_getElem? (i := 171) (by decide +kernel))) rfl)
theorem zv_X9_readsDoor : Cond.selects yX9_readsDoor.cls yX9_readsDoor yX9_readsDoor ∈ zTb := zp_8 (List.mem_of_getElem? (i := 3) rfl)
theorem zd_X9_readsDoor : yX9_readsDoor.cls ≠ "java/lang/invoke/MethodHandle" ∧ yX9_readsDoor.cls ≠ "java/lang/invoke/VarHandle" ∧ (parseMethodDescriptor yX9_readsDoor.desc).map (fun d => d.parameters.length) = some 0 := by decide +kernel
theorem klX9_179 : Cond.methodLink RX9 179 yX9_readsDoor ∈ zTb := (zTb_mem (zm_8 (List.mem_of_getElem? (i := 169) (by decide +kernel))) rfl)
theorem kvX9_179 : zCv RX9 179 yX9_readsDoor cX9_readsDoor 2 (none) 0 9 := ⟨⟨zc_X9_readsDoor, zi_X9_readsDoor, by decide, zd_X9_readsDoor, (Or.inl klX9_179)⟩, zx_X9_readsDoor, zv_X9_readsDoor, rfl⟩
theorem zc_X9_readsSlate : Cond.code yX9_readsSlate cX9_readsSlate 3 (none) ∈ zTb := (zTb_mem (zm_8 (List.mem_of_getElem? (i := 176) (by decide +kernel))) rfl)
theorem zi_X9_readsSlate : Cond.initialized yX9_readsSlate.cls ∈ zTb := (zTb_mem (zm_1 (List.mem_of_getElem? (i := 9) (by decide +kernel))) rfl)
theorem zx_X9_readsSlate : Cond.instanceMethod yX9_readsSlate ∈ zTb := (zTb_mem (zm_8 (List.mem_of_getElem? (i := 175) (by decide +kernel))) rfl)
theorem zv_X9_readsSlate : Cond.selects yX9_readsSlate.cls yX9_readsSlate yX9_readsSlate ∈ zTb := zp_8 (List.mem_of_getElem? (i := 4) rfl)
theorem zd_X9_readsSlate : yX9_readsSlate.cls ≠ "java/lang/invoke/MethodHandle" ∧ yX9_readsSlate.cls ≠ "java/lang/invoke/VarHandle" ∧ (parseMethodDescriptor yX9_readsSlate.desc).map (fun d => d.parameters.length) = some 0 := by decide +kernel
theorem klX9_182 : Cond.methodLink RX9 182 yX9_readsSlate ∈ zTb := (zTb_mem (zm_8 (List.mem_of_getElem? (i := 173) (by decide +kernel))) rfl)
theorem kvX9_182 : zCv RX9 182 yX9_readsSlate cX9_readsSlate 3 (none) 0 9 := ⟨⟨zc_X9_readsSlate, zi_X9_readsSlate, by decide, zd_X9_readsSlate, (Or.inl klX9_182)⟩, zx_X9_readsSlate, zv_X9_readsSlate, rfl⟩
theorem zc_X9_digits : Cond.code yX9_digits cX9_digits 7 (some .int) ∈ zTb := (zTb_mem (zm_8 (List.mem_of_getElem? (i := 164) (by decide +kernel))) rfl)
theorem zi_X9_digits : Cond.initialized yX9_digits.cls ∈ zTb := (zTb_mem (zm_1 (List.mem_of_getElem? (i := 9) (by decide +kernel))) rfl)
theorem zx_X9_digits : Cond.instanceMethod yX9_digits ∈ zTb := (zTb_mem (zm_8 (List.mem_of_getElem? (i := 163) (by decide +kernel))) rfl)
theorem zv_X9_digits : Cond.selects yX9_digits.cls yX9_digits yX9_digits ∈ zTb := zp_8 (List.mem_of_getElem? (i := 1) rfl)
theorem zd_X9_digits : yX9_digits.cls ≠ "java/lang/invoke/MethodHandle" ∧ yX9_digits.cls ≠ "java/lang/invoke/VarHandle" ∧ (parseMethodDescriptor yX9_digits.desc).map (fun d => d.parameters.length) = some 3 := by decide +kernel
theorem klX9_185 : Cond.methodLink RX9 185 yX9_digits ∈ zTb := (zTb_mem (zm_8 (List.mem_of_getElem? (i := 161) (by decide +kernel))) rfl)
theorem kvX9_185 : zCv RX9 185 yX9_digits cX9_digits 7 (some .int) 3 9 := ⟨⟨zc_X9_digits, zi_X9_digits, by decide, zd_X9_digits, (Or.inl klX9_185)⟩, zx_X9_digits, zv_X9_digits, rfl⟩
theorem zc_X9_bad : Cond.code yX9_bad cX9_bad 3 (some .boolean) ∈ zTb := (zTb_mem (zm_8 (List.mem_of_getElem? (i := 105) (by decide +kernel))) rfl)
theorem zi_X9_bad : Cond.initialized yX9_bad.cls ∈ zTb := (zTb_mem (zm_1 (List.mem_of_getElem? (i := 9) (by decide +kernel))) rfl)
theorem zx_X9_bad : Cond.instanceMethod yX9_bad ∈ zTb := (zTb_mem (zm_8 (List.mem_of_getElem? (i := 104) (by decide +kernel))) rfl)
theorem zv_X9_bad : Cond.selects yX9_bad.cls yX9_bad yX9_bad ∈ zTb := zp_7 (List.mem_of_getElem? (i := 4) rfl)
theorem zd_X9_bad : yX9_bad.cls ≠ "java/lang/invoke/MethodHandle" ∧ yX9_bad.cls ≠ "java/lang/invoke/VarHandle" ∧ (parseMethodDescriptor yX9_bad.desc).map (fun d => d.parameters.length) = some 2 := by decide +kernel
theorem klX9_188 : Cond.methodLink RX9 188 yX9_bad ∈ zTb := (zTb_mem (zm_8 (List.mem_of_getElem? (i := 102) (by decide +kernel))) rfl)
theorem kvX9_188 : zCv RX9 188 yX9_bad cX9_bad 3 (some .boolean) 2 9 := ⟨⟨zc_X9_bad, zi_X9_bad, by decide, zd_X9_bad, (Or.inl klX9_188)⟩, zx_X9_bad, zv_X9_bad, rfl⟩
theorem zc_X9_asks : Cond.code yX9_asks cX9_asks 2 (none) ∈ zTb := (zTb_mem (zm_8 (List.mem_of_getElem? (i := 109) (by decide +kernel))) rfl)
theorem zi_X9_asks : Cond.initialized yX9_asks.cls ∈ zTb := (zTb_mem (zm_1 (List.mem_of_getElem? (i := 9) (by decide +kernel))) rfl)
theorem zx_X9_asks : Cond.instanceMethod yX9_asks ∈ zTb := (zTb_mem (zm_8 (List.mem_of_getElem? (i := 108) (by decide +kernel))) rfl)
theorem zv_X9_asks : Cond.selects yX9_asks.cls yX9_asks yX9_asks ∈ zTb := zp_7 (List.mem_of_getElem? (i := 5) rfl)
theorem zd_X9_asks : yX9_asks.cls ≠ "java/lang/invoke/MethodHandle" ∧ yX9_asks.cls ≠ "java/lang/invoke/VarHandle" ∧ (parseMethodDescriptor yX9_asks.desc).map (fun d => d.parameters.length) = some 0 := by decide +kernel
theorem klX9_192 : Cond.methodLink RX9 192 yX9_asks ∈ zTb := (zTb_mem (zm_8 (List.mem_of_getElem? (i := 106) (by decide +kernel))) rfl)
theorem kvX9_192 : zCv RX9 192 yX9_asks cX9_asks 2 (none) 0 9 := ⟨⟨zc_X9_asks, zi_X9_asks, by decide, zd_X9_asks, (Or.inl klX9_192)⟩, zx_X9_asks, zv_X9_asks, rfl⟩
theorem zc_X9_clause : Cond.code yX9_clause cX9_clause 2 (none) ∈ zTb := (zTb_mem (zm_8 (List.mem_of_getElem? (i := 152) (by decide +kernel))) rfl)
theorem zi_X9_clause : Cond.initialized yX9_clause.cls ∈ zTb := (zTb_mem (zm_1 (List.mem_of_getElem? (i := 9) (by decide +kernel))) rfl)
theorem zx_X9_clause : Cond.instanceMethod yX9_clause ∈ zTb := (zTb_mem (zm_8 (List.mem_of_getElem? (i := 151) (by decide +kernel))) rfl)
theorem zv_X9_clause : Cond.selects yX9_clause.cls yX9_clause yX9_clause ∈ zTb := zp_7 (List.mem_of_getElem? (i := 14) rfl)
theorem zd_X9_clause : yX9_clause.cls ≠ "java/lang/invoke/MethodHandle" ∧ yX9_clause.cls ≠ "java/lang/invoke/VarHandle" ∧ (parseMethodDescriptor yX9_clause.desc).map (fun d => d.parameters.length) = some 0 := by decide +kernel
theorem klX9_195 : Cond.methodLink RX9 195 yX9_clause ∈ zTb := (zTb_mem (zm_8 (List.mem_of_getElem? (i := 149) (by decide +kernel))) rfl)
theorem kvX9_195 : zCv RX9 195 yX9_clause cX9_clause 2 (none) 0 9 := ⟨⟨zc_X9_clause, zi_X9_clause, by decide, zd_X9_clause, (Or.inl klX9_195)⟩, zx_X9_clause, zv_X9_clause, rfl⟩
theorem zc_X9_dawns : Cond.code yX9_dawns cX9_dawns 2 (none) ∈ zTb := (zTb_mem (zm_8 (List.mem_of_getElem? (i := 180) (by decide +kernel))) rfl)
theorem zi_X9_dawns : Cond.initialized yX9_dawns.cls ∈ zTb := (zTb_mem (zm_1 (List.mem_of_getElem? (i := 9) (by decide +kernel))) rfl)
theorem zx_X9_dawns : Cond.instanceMethod yX9_dawns ∈ zTb := (zTb_mem (zm_8 (List.mem_of_getElem? (i := 179) (by decide +kernel))) rfl)
theorem zv_X9_dawns : Cond.selects yX9_dawns.cls yX9_dawns yX9_dawns ∈ zTb := zp_8 (List.mem_of_getElem? (i := 5) rfl)
theorem zd_X9_dawns : yX9_dawns.cls ≠ "java/lang/invoke/MethodHandle" ∧ yX9_dawns.cls ≠ "java/lang/invoke/VarHandle" ∧ (parseMethodDescriptor yX9_dawns.desc).map (fun d => d.parameters.length) = some 0 := by decide +kernel
theorem klX9_207 : Cond.methodLink RX9 207 yX9_dawns ∈ zTb := (zTb_mem (zm_8 (List.mem_of_getElem? (i := 177) (by decide +kernel))) rfl)
theorem kvX9_207 : zCv RX9 207 yX9_dawns cX9_dawns 2 (none) 0 9 := ⟨⟨zc_X9_dawns, zi_X9_dawns, by decide, zd_X9_dawns, (Or.inl klX9_207)⟩, zx_X9_dawns, zv_X9_dawns, rfl⟩
theorem zc_X9_isKin : Cond.code yX9_isKin cX9_isKin 3 (some .boolean) ∈ zTb := (zTb_mem (zm_8 (List.mem_of_getElem? (i := 192) (by decide +kernel))) rfl)
theorem zi_X9_isKin : Cond.initialized yX9_isKin.cls ∈ zTb := (zTb_mem (zm_1 (List.mem_of_getElem? (i := 9) (by decide +kernel))) rfl)
theorem zx_X9_isKin : Cond.instanceMethod yX9_isKin ∈ zTb := (zTb_mem (zm_8 (List.mem_of_getElem? (i := 191) (by decide +kernel))) rfl)
theorem zv_X9_isKin : Cond.selects yX9_isKin.cls yX9_isKin yX9_isKin ∈ zTb := zp_8 (List.mem_of_getElem? (i := 6) rfl)
theorem zd_X9_isKin : yX9_isKin.cls ≠ "java/lang/invoke/MethodHandle" ∧ yX9_isKin.cls ≠ "java/lang/invoke/VarHandle" ∧ (parseMethodDescriptor yX9_isKin.desc).map (fun d => d.parameters.length) = some 2 := by decide +kernel
theorem klX9_210 : Cond.methodLink RX9 210 yX9_isKin ∈ zTb := (zTb_mem (zm_8 (List.mem_of_getElem? (i := 189) (by decide +kernel))) rfl)
theorem kvX9_210 : zCv RX9 210 yX9_isKin cX9_isKin 3 (some .boolean) 2 9 := ⟨⟨zc_X9_isKin, zi_X9_isKin, by decide, zd_X9_isKin, (Or.inl klX9_210)⟩, zx_X9_isKin, zv_X9_isKin, rfl⟩
theorem zc_X9_isPerson : Cond.code yX9_isPerson cX9_isPerson 2 (some .boolean) ∈ zTb := (zTb_mem (zm_8 (List.mem_of_getElem? (i := 200) (by decide +kernel))) rfl)
theorem zi_X9_isPerson : Cond.initialized yX9_isPerson.cls ∈ zTb := (zTb_mem (zm_1 (List.mem_of_getElem? (i := 9) (by decide +kernel))) rfl)
theorem zx_X9_isPerson : Cond.instanceMethod yX9_isPerson ∈ zTb := (zTb_mem (zm_8 (List.mem_of_getElem? (i := 199) (by decide +kernel))) rfl)
theorem zv_X9_isPerson : Cond.selects yX9_isPerson.cls yX9_isPerson yX9_isPerson ∈ zTb := zp_8 (List.mem_of_getElem? (i := 7) rfl)
theorem zd_X9_isPerson : yX9_isPerson.cls ≠ "java/lang/invoke/MethodHandle" ∧ yX9_isPerson.cls ≠ "java/lang/invoke/VarHandle" ∧ (parseMethodDescriptor yX9_isPerson.desc).map (fun d => d.parameters.length) = some 1 := by decide +kernel
theorem klX9_214 : Cond.methodLink RX9 214 yX9_isPerson ∈ zTb := (zTb_mem (zm_8 (List.mem_of_getElem? (i := 197) (by decide +kernel))) rfl)
theorem kvX9_214 : zCv RX9 214 yX9_isPerson cX9_isPerson 2 (some .boolean) 1 9 := ⟨⟨zc_X9_isPerson, zi_X9_isPerson, by decide, zd_X9_isPerson, (Or.inl klX9_214)⟩, zx_X9_isPerson, zv_X9_isPerson, rfl⟩
theorem zc_X9_isAsked : Cond.code yX9_isAsked cX9_isAsked 2 (some .boolean) ∈ zTb := (zTb_mem (zm_8 (List.mem_of_getElem? (i := 204) (by decide +kernel))) rfl)
theorem zi_X9_isAsked : Cond.initialized yX9_isAsked.cls ∈ zTb := (zTb_mem (zm_1 (List.mem_of_getElem? (i := 9) (by decide +kernel))) rfl)
theorem zx_X9_isAsked : Cond.instanceMethod yX9_isAsked ∈ zTb := (zTb_mem (zm_8 (List.mem_of_getElem? (i := 203) (by decide +kernel))) rfl)
theorem zv_X9_isAsked : Cond.selects yX9_isAsked.cls yX9_isAsked yX9_isAsked ∈ zTb := zp_8 (List.mem_of_getElem? (i := 8) rfl)
theorem zd_X9_isAsked : yX9_isAsked.cls ≠ "java/lang/invoke/MethodHandle" ∧ yX9_isAsked.cls ≠ "java/lang/invoke/VarHandle" ∧ (parseMethodDescriptor yX9_isAsked.desc).map (fun d => d.parameters.length) = some 1 := by decide +kernel
theorem klX9_217 : Cond.methodLink RX9 217 yX9_isAsked ∈ zTb := (zTb_mem (zm_8 (List.mem_of_getElem? (i := 201) (by decide +kernel))) rfl)
theorem kvX9_217 : zCv RX9 217 yX9_isAsked cX9_isAsked 2 (some .boolean) 1 9 := ⟨⟨zc_X9_isAsked, zi_X9_isAsked, by decide, zd_X9_isAsked, (Or.inl klX9_217)⟩, zx_X9_isAsked, zv_X9_isAsked, rfl⟩
theorem zc_X9_isDoor : Cond.code yX9_isDoor cX9_isDoor 2 (some .boolean) ∈ zTb := (zTb_mem (zm_8 (List.mem_of_getElem? (i := 216) (by decide +kernel))) rfl)
theorem zi_X9_isDoor : Cond.initialized yX9_isDoor.cls ∈ zTb := (zTb_mem (zm_1 (List.mem_of_getElem? (i := 9) (by decide +kernel))) rfl)
theorem zx_X9_isDoor : Cond.instanceMethod yX9_isDoor ∈ zTb := (zTb_mem (zm_8 (List.mem_of_getElem? (i := 215) (by decide +kernel))) rfl)
theorem zv_X9_isDoor : Cond.selects yX9_isDoor.cls yX9_isDoor yX9_isDoor ∈ zTb := zp_8 (List.mem_of_getElem? (i := 9) rfl)
theorem zd_X9_isDoor : yX9_isDoor.cls ≠ "java/lang/invoke/MethodHandle" ∧ yX9_isDoor.cls ≠ "java/lang/invoke/VarHandle" ∧ (parseMethodDescriptor yX9_isDoor.desc).map (fun d => d.parameters.length) = some 1 := by decide +kernel
theorem klX9_220 : Cond.methodLink RX9 220 yX9_isDoor ∈ zTb := (zTb_mem (zm_8 (List.mem_of_getElem? (i := 213) (by decide +kernel))) rfl)
theorem kvX9_220 : zCv RX9 220 yX9_isDoor cX9_isDoor 2 (some .boolean) 1 9 := ⟨⟨zc_X9_isDoor, zi_X9_isDoor, by decide, zd_X9_isDoor, (Or.inl klX9_220)⟩, zx_X9_isDoor, zv_X9_isDoor, rfl⟩
theorem zc_X9_slateOf : Cond.code yX9_slateOf cX9_slateOf 2 (some .int) ∈ zTb := (zTb_mem (zm_8 (List.mem_of_getElem? (i := 224) (by decide +kernel))) rfl)
theorem zi_X9_slateOf : Cond.initialized yX9_slateOf.cls ∈ zTb := (zTb_mem (zm_1 (List.mem_of_getElem? (i := 9) (by decide +kernel))) rfl)
theorem zx_X9_slateOf : Cond.instanceMethod yX9_slateOf ∈ zTb := (zTb_mem (zm_8 (List.mem_of_getElem? (i := 223) (by decide +kernel))) rfl)
theorem zv_X9_slateOf : Cond.selects yX9_slateOf.cls yX9_slateOf yX9_slateOf ∈ zTb := zp_8 (List.mem_of_getElem? (i := 10) rfl)
theorem zd_X9_slateOf : yX9_slateOf.cls ≠ "java/lang/invoke/MethodHandle" ∧ yX9_slateOf.cls ≠ "java/lang/invoke/VarHandle" ∧ (parseMethodDescriptor yX9_slateOf.desc).map (fun d => d.parameters.length) = some 1 := by decide +kernel
theorem klX9_223 : Cond.methodLink RX9 223 yX9_slateOf ∈ zTb := (zTb_mem (zm_8 (List.mem_of_getElem? (i := 221) (by decide +kernel))) rfl)
theorem kvX9_223 : zCv RX9 223 yX9_slateOf cX9_slateOf 2 (some .int) 1 9 := ⟨⟨zc_X9_slateOf, zi_X9_slateOf, by decide, zd_X9_slateOf, (Or.inl klX9_223)⟩, zx_X9_slateOf, zv_X9_slateOf, rfl⟩
theorem zc_X9_asked : Cond.code yX9_asked cX9_asked 2 (some .int) ∈ zTb := (zTb_mem (zm_9 (List.mem_of_getElem? (i := 0) (by decide +kernel))) rfl)
theorem zi_X9_asked : Cond.initialized yX9_asked.cls ∈ zTb := (zTb_mem (zm_1 (List.mem_of_getElem? (i := 9) (by decide +kernel))) rfl)
theorem zx_X9_asked : Cond.instanceMethod yX9_asked ∈ zTb := (zTb_mem (zm_8 (List.mem_of_getElem? (i := 239) (by decide +kernel))) rfl)
theorem zv_X9_asked : Cond.selects yX9_asked.cls yX9_asked yX9_asked ∈ zTb := zp_8 (List.mem_of_getElem? (i := 13) rfl)
theorem zd_X9_asked : yX9_asked.cls ≠ "java/lang/invoke/MethodHandle" ∧ yX9_asked.cls ≠ "java/lang/invoke/VarHandle" ∧ (parseMethodDescriptor yX9_asked.desc).map (fun d => d.parameters.length) = some 1 := by decide +kernel
theorem klX9_226 : Cond.methodLink RX9 226 yX9_asked ∈ zTb := (zTb_mem (zm_8 (List.mem_of_getElem? (i := 237) (by decide +kernel))) rfl)
theorem kvX9_226 : zCv RX9 226 yX9_asked cX9_asked 2 (some .int) 1 9 := ⟨⟨zc_X9_asked, zi_X9_asked, by decide, zd_X9_asked, (Or.inl klX9_226)⟩, zx_X9_asked, zv_X9_asked, rfl⟩
theorem zc_X9_amount : Cond.code yX9_amount cX9_amount 1 (some .int) ∈ zTb := (zTb_mem (zm_9 (List.mem_of_getElem? (i := 3) (by decide +kernel))) rfl)
theorem zi_X9_amount : Cond.initialized yX9_amount.cls ∈ zTb := (zTb_mem (zm_1 (List.mem_of_getElem? (i := 9) (by decide +kernel))) rfl)
theorem zs_X9_amount : Cond.static yX9_amount ∈ zTb := (zTb_mem (zm_9 (List.mem_of_getElem? (i := 2) (by decide +kernel))) rfl)
theorem zd_X9_amount : yX9_amount.cls ≠ "java/lang/invoke/MethodHandle" ∧ yX9_amount.cls ≠ "java/lang/invoke/VarHandle" ∧ (parseMethodDescriptor yX9_amount.desc).map (fun d => d.parameters.length) = some 1 := by decide +kernel
theorem klX9_229 : Cond.methodLink RX9 229 yX9_amount ∈ zTb := (zTb_mem (zm_9 (List.mem_of_getElem? (i := 1) (by decide +kernel))) rfl)
theorem ksX9_229 : zCs RX9 229 yX9_amount cX9_amount 1 (some .int) 1 := ⟨⟨zc_X9_amount, zi_X9_amount, by decide, zd_X9_amount, (Or.inl klX9_229)⟩, zs_X9_amount⟩
theorem zc_X9_nears : Cond.code yX9_nears cX9_nears 9 (none) ∈ zTb := (zTb_mem (zm_9 (List.mem_of_getElem? (i := 11) (by decide +kernel))) rfl)
theorem zi_X9_nears : Cond.initialized yX9_nears.cls ∈ zTb := (zTb_mem (zm_1 (List.mem_of_getElem? (i := 9) (by decide +kernel))) rfl)
theorem zx_X9_nears : Cond.instanceMethod yX9_nears ∈ zTb := (zTb_mem (zm_9 (List.mem_of_getElem? (i := 10) (by decide +kernel))) rfl)
theorem zv_X9_nears : Cond.selects yX9_nears.cls yX9_nears yX9_nears ∈ zTb := zp_8 (List.mem_of_getElem? (i := 15) rfl)
theorem zd_X9_nears : yX9_nears.cls ≠ "java/lang/invoke/MethodHandle" ∧ yX9_nears.cls ≠ "java/lang/invoke/VarHandle" ∧ (parseMethodDescriptor yX9_nears.desc).map (fun d => d.parameters.length) = some 3 := by decide +kernel
theorem klX9_232 : Cond.methodLink RX9 232 yX9_nears ∈ zTb := (zTb_mem (zm_9 (List.mem_of_getElem? (i := 8) (by decide +kernel))) rfl)
theorem kvX9_232 : zCv RX9 232 yX9_nears cX9_nears 9 (none) 3 9 := ⟨⟨zc_X9_nears, zi_X9_nears, by decide, zd_X9_nears, (Or.inl klX9_232)⟩, zx_X9_nears, zv_X9_nears, rfl⟩
theorem zc_X9_badWork : Cond.code yX9_badWork cX9_badWork 4 (some .boolean) ∈ zTb := (zTb_mem (zm_8 (List.mem_of_getElem? (i := 232) (by decide +kernel))) rfl)
theorem zi_X9_badWork : Cond.initialized yX9_badWork.cls ∈ zTb := (zTb_mem (zm_1 (List.mem_of_getElem? (i := 9) (by decide +kernel))) rfl)
theorem zx_X9_badWork : Cond.instanceMethod yX9_badWork ∈ zTb := (zTb_mem (zm_8 (List.mem_of_getElem? (i := 231) (by decide +kernel))) rfl)
theorem zv_X9_badWork : Cond.selects yX9_badWork.cls yX9_badWork yX9_badWork ∈ zTb := zp_8 (List.mem_of_getElem? (i := 11) rfl)
theorem zd_X9_badWork : yX9_badWork.cls ≠ "java/lang/invoke/MethodHandle" ∧ yX9_badWork.cls ≠ "java/lang/invoke/VarHandle" ∧ (parseMethodDescriptor yX9_badWork.desc).map (fun d => d.parameters.length) = some 3 := by decide +kernel
theorem klX9_236 : Cond.methodLink RX9 236 yX9_badWork ∈ zTb := (zTb_mem (zm_8 (List.mem_of_getElem? (i := 229) (by decide +kernel))) rfl)
theorem kvX9_236 : zCv RX9 236 yX9_badWork cX9_badWork 4 (some .boolean) 3 9 := ⟨⟨zc_X9_badWork, zi_X9_badWork, by decide, zd_X9_badWork, (Or.inl klX9_236)⟩, zx_X9_badWork, zv_X9_badWork, rfl⟩
theorem zc_X9_errs : Cond.code yX9_errs cX9_errs 4 (some .int) ∈ zTb := (zTb_mem (zm_8 (List.mem_of_getElem? (i := 236) (by decide +kernel))) rfl)
theorem zi_X9_errs : Cond.initialized yX9_errs.cls ∈ zTb := (zTb_mem (zm_1 (List.mem_of_getElem? (i := 9) (by decide +kernel))) rfl)
theorem zx_X9_errs : Cond.instanceMethod yX9_errs ∈ zTb := (zTb_mem (zm_8 (List.mem_of_getElem? (i := 235) (by decide +kernel))) rfl)
theorem zv_X9_errs : Cond.selects yX9_errs.cls yX9_errs yX9_errs ∈ zTb := zp_8 (List.mem_of_getElem? (i := 12) rfl)
theorem zd_X9_errs : yX9_errs.cls ≠ "java/lang/invoke/MethodHandle" ∧ yX9_errs.cls ≠ "java/lang/invoke/VarHandle" ∧ (parseMethodDescriptor yX9_errs.desc).map (fun d => d.parameters.length) = some 3 := by decide +kernel
theorem klX9_239 : Cond.methodLink RX9 239 yX9_errs ∈ zTb := (zTb_mem (zm_8 (List.mem_of_getElem? (i := 233) (by decide +kernel))) rfl)
theorem kvX9_239 : zCv RX9 239 yX9_errs cX9_errs 4 (some .int) 3 9 := ⟨⟨zc_X9_errs, zi_X9_errs, by decide, zd_X9_errs, (Or.inl klX9_239)⟩, zx_X9_errs, zv_X9_errs, rfl⟩
theorem zc_X9_works : Cond.code yX9_works cX9_works 4 (none) ∈ zTb := (zTb_mem (zm_9 (List.mem_of_getElem? (i := 7) (by decide +kernel))) rfl)
theorem zi_X9_works : Cond.initialized yX9_works.cls ∈ zTb := (zTb_mem (zm_1 (List.mem_of_getElem? (i := 9) (by decide +kernel))) rfl)
theorem zx_X9_works : Cond.instanceMethod yX9_works ∈ zTb := (zTb_mem (zm_9 (List.mem_of_getElem? (i := 6) (by decide +kernel))) rfl)
theorem zv_X9_works : Cond.selects yX9_works.cls yX9_works yX9_works ∈ zTb := zp_8 (List.mem_of_getElem? (i := 14) rfl)
theorem zd_X9_works : yX9_works.cls ≠ "java/lang/invoke/MethodHandle" ∧ yX9_works.cls ≠ "java/lang/invoke/VarHandle" ∧ (parseMethodDescriptor yX9_works.desc).map (fun d => d.parameters.length) = some 3 := by decide +kernel
theorem klX9_242 : Cond.methodLink RX9 242 yX9_works ∈ zTb := (zTb_mem (zm_9 (List.mem_of_getElem? (i := 4) (by decide +kernel))) rfl)
theorem kvX9_242 : zCv RX9 242 yX9_works cX9_works 4 (none) 3 9 := ⟨⟨zc_X9_works, zi_X9_works, by decide, zd_X9_works, (Or.inl klX9_242)⟩, zx_X9_works, zv_X9_works, rfl⟩
theorem zc_X9_talks : Cond.code yX9_talks cX9_talks 4 (none) ∈ zTb := (zTb_mem (zm_9 (List.mem_of_getElem? (i := 27) (by decide +kernel))) rfl)
theorem zi_X9_talks : Cond.initialized yX9_talks.cls ∈ zTb := (zTb_mem (zm_1 (List.mem_of_getElem? (i := 9) (by decide +kernel))) rfl)
theorem zx_X9_talks : Cond.instanceMethod yX9_talks ∈ zTb := (zTb_mem (zm_9 (List.mem_of_getElem? (i := 26) (by decide +kernel))) rfl)
theorem zv_X9_talks : Cond.selects yX9_talks.cls yX9_talks yX9_talks ∈ zTb := zp_9 (List.mem_of_getElem? (i := 0) rfl)
theorem zd_X9_talks : yX9_talks.cls ≠ "java/lang/invoke/MethodHandle" ∧ yX9_talks.cls ≠ "java/lang/invoke/VarHandle" ∧ (parseMethodDescriptor yX9_talks.desc).map (fun d => d.parameters.length) = some 3 := by decide +kernel
theorem klX9_245 : Cond.methodLink RX9 245 yX9_talks ∈ zTb := (zTb_mem (zm_9 (List.mem_of_getElem? (i := 24) (by decide +kernel))) rfl)
theorem kvX9_245 : zCv RX9 245 yX9_talks cX9_talks 4 (none) 3 9 := ⟨⟨zc_X9_talks, zi_X9_talks, by decide, zd_X9_talks, (Or.inl klX9_245)⟩, zx_X9_talks, zv_X9_talks, rfl⟩
theorem zc_X9_lays : Cond.code yX9_lays cX9_lays 3 (none) ∈ zTb := (zTb_mem (zm_9 (List.mem_of_getElem? (i := 47) (by decide +kernel))) rfl)
theorem zi_X9_lays : Cond.initialized yX9_lays.cls ∈ zTb := (zTb_mem (zm_1 (List.mem_of_getElem? (i := 9) (by decide +kernel))) rfl)
theorem zx_X9_lays : Cond.instanceMethod yX9_lays ∈ zTb := (zTb_mem (zm_9 (List.mem_of_getElem? (i := 46) (by decide +kernel))) rfl)
theorem zv_X9_lays : Cond.selects yX9_lays.cls yX9_lays yX9_lays ∈ zTb := zp_9 (List.mem_of_getElem? (i := 1) rfl)
theorem zd_X9_lays : yX9_lays.cls ≠ "java/lang/invoke/MethodHandle" ∧ yX9_lays.cls ≠ "java/lang/invoke/VarHandle" ∧ (parseMethodDescriptor yX9_lays.desc).map (fun d => d.parameters.length) = some 2 := by decide +kernel
theorem klX9_248 : Cond.methodLink RX9 248 yX9_lays ∈ zTb := (zTb_mem (zm_9 (List.mem_of_getElem? (i := 44) (by decide +kernel))) rfl)
theorem kvX9_248 : zCv RX9 248 yX9_lays cX9_lays 3 (none) 2 9 := ⟨⟨zc_X9_lays, zi_X9_lays, by decide, zd_X9_lays, (Or.inl klX9_248)⟩, zx_X9_lays, zv_X9_lays, rfl⟩
theorem zc_X9_moves : Cond.code yX9_moves cX9_moves 4 (some .int) ∈ zTb := (zTb_mem (zm_9 (List.mem_of_getElem? (i := 55) (by decide +kernel))) rfl)
theorem zi_X9_moves : Cond.initialized yX9_moves.cls ∈ zTb := (zTb_mem (zm_1 (List.mem_of_getElem? (i := 9) (by decide +kernel))) rfl)
theorem zx_X9_moves : Cond.instanceMethod yX9_moves ∈ zTb := (zTb_mem (zm_9 (List.mem_of_getElem? (i := 54) (by decide +kernel))) rfl)
theorem zv_X9_moves : Cond.selects yX9_moves.cls yX9_moves yX9_moves ∈ zTb := zp_9 (List.mem_of_getElem? (i := 3) rfl)
theorem zd_X9_moves : yX9_moves.cls ≠ "java/lang/invoke/MethodHandle" ∧ yX9_moves.cls ≠ "java/lang/invoke/VarHandle" ∧ (parseMethodDescriptor yX9_moves.desc).map (fun d => d.parameters.length) = some 3 := by decide +kernel
theorem klX9_255 : Cond.methodLink RX9 255 yX9_moves ∈ zTb := (zTb_mem (zm_9 (List.mem_of_getElem? (i := 52) (by decide +kernel))) rfl)
theorem kvX9_255 : zCv RX9 255 yX9_moves cX9_moves 4 (some .int) 3 9 := ⟨⟨zc_X9_moves, zi_X9_moves, by decide, zd_X9_moves, (Or.inl klX9_255)⟩, zx_X9_moves, zv_X9_moves, rfl⟩
theorem zc_X9_movesAll : Cond.code yX9_movesAll cX9_movesAll 5 (none) ∈ zTb := (zTb_mem (zm_9 (List.mem_of_getElem? (i := 51) (by decide +kernel))) rfl)
theorem zi_X9_movesAll : Cond.initialized yX9_movesAll.cls ∈ zTb := (zTb_mem (zm_1 (List.mem_of_getElem? (i := 9) (by decide +kernel))) rfl)
theorem zx_X9_movesAll : Cond.instanceMethod yX9_movesAll ∈ zTb := (zTb_mem (zm_9 (List.mem_of_getElem? (i := 50) (by decide +kernel))) rfl)
theorem zv_X9_movesAll : Cond.selects yX9_movesAll.cls yX9_movesAll yX9_movesAll ∈ zTb := zp_9 (List.mem_of_getElem? (i := 2) rfl)
theorem zd_X9_movesAll : yX9_movesAll.cls ≠ "java/lang/invoke/MethodHandle" ∧ yX9_movesAll.cls ≠ "java/lang/invoke/VarHandle" ∧ (parseMethodDescriptor yX9_movesAll.desc).map (fun d => d.parameters.length) = some 2 := by decide +kernel
theorem klX9_259 : Cond.methodLink RX9 259 yX9_movesAll ∈ zTb := (zTb_mem (zm_9 (List.mem_of_getElem? (i := 48) (by decide +kernel))) rfl)
theorem kvX9_259 : zCv RX9 259 yX9_movesAll cX9_movesAll 5 (none) 2 9 := ⟨⟨zc_X9_movesAll, zi_X9_movesAll, by decide, zd_X9_movesAll, (Or.inl klX9_259)⟩, zx_X9_movesAll, zv_X9_movesAll, rfl⟩
theorem zc_X9_adds : Cond.code yX9_adds cX9_adds 8 (none) ∈ zTb := (zTb_mem (zm_9 (List.mem_of_getElem? (i := 71) (by decide +kernel))) rfl)
theorem zi_X9_adds : Cond.initialized yX9_adds.cls ∈ zTb := (zTb_mem (zm_1 (List.mem_of_getElem? (i := 9) (by decide +kernel))) rfl)
theorem zx_X9_adds : Cond.instanceMethod yX9_adds ∈ zTb := (zTb_mem (zm_9 (List.mem_of_getElem? (i := 70) (by decide +kernel))) rfl)
theorem zv_X9_adds : Cond.selects yX9_adds.cls yX9_adds yX9_adds ∈ zTb := zp_9 (List.mem_of_getElem? (i := 6) rfl)
theorem zd_X9_adds : yX9_adds.cls ≠ "java/lang/invoke/MethodHandle" ∧ yX9_adds.cls ≠ "java/lang/invoke/VarHandle" ∧ (parseMethodDescriptor yX9_adds.desc).map (fun d => d.parameters.length) = some 2 := by decide +kernel
theorem klX9_269 : Cond.methodLink RX9 269 yX9_adds ∈ zTb := (zTb_mem (zm_9 (List.mem_of_getElem? (i := 68) (by decide +kernel))) rfl)
theorem kvX9_269 : zCv RX9 269 yX9_adds cX9_adds 8 (none) 2 9 := ⟨⟨zc_X9_adds, zi_X9_adds, by decide, zd_X9_adds, (Or.inl klX9_269)⟩, zx_X9_adds, zv_X9_adds, rfl⟩
theorem zc_X9_worthOf : Cond.code yX9_worthOf cX9_worthOf 4 (some .int) ∈ zTb := (zTb_mem (zm_9 (List.mem_of_getElem? (i := 79) (by decide +kernel))) rfl)
theorem zi_X9_worthOf : Cond.initialized yX9_worthOf.cls ∈ zTb := (zTb_mem (zm_1 (List.mem_of_getElem? (i := 9) (by decide +kernel))) rfl)
theorem zx_X9_worthOf : Cond.instanceMethod yX9_worthOf ∈ zTb := (zTb_mem (zm_9 (List.mem_of_getElem? (i := 78) (by decide +kernel))) rfl)
theorem zv_X9_worthOf : Cond.selects yX9_worthOf.cls yX9_worthOf yX9_worthOf ∈ zTb := zp_9 (List.mem_of_getElem? (i := 8) rfl)
theorem zd_X9_worthOf : yX9_worthOf.cls ≠ "java/lang/invoke/MethodHandle" ∧ yX9_worthOf.cls ≠ "java/lang/invoke/VarHandle" ∧ (parseMethodDescriptor yX9_worthOf.desc).map (fun d => d.parameters.length) = some 1 := by decide +kernel
theorem klX9_272 : Cond.methodLink RX9 272 yX9_worthOf ∈ zTb := (zTb_mem (zm_9 (List.mem_of_getElem? (i := 76) (by decide +kernel))) rfl)
theorem kvX9_272 : zCv RX9 272 yX9_worthOf cX9_worthOf 4 (some .int) 1 9 := ⟨⟨zc_X9_worthOf, zi_X9_worthOf, by decide, zd_X9_worthOf, (Or.inl klX9_272)⟩, zx_X9_worthOf, zv_X9_worthOf, rfl⟩
theorem zc_X9_canBe : Cond.code yX9_canBe cX9_canBe 4 (some .boolean) ∈ zTb := (zTb_mem (zm_9 (List.mem_of_getElem? (i := 75) (by decide +kernel))) rfl)
theorem zi_X9_canBe : Cond.initialized yX9_canBe.cls ∈ zTb := (zTb_mem (zm_1 (List.mem_of_getElem? (i := 9) (by decide +kernel))) rfl)
theorem zx_X9_canBe : Cond.instanceMethod yX9_canBe ∈ zTb := (zTb_mem (zm_9 (List.mem_of_getElem? (i := 74) (by decide +kernel))) rfl)
theorem zv_X9_canBe : Cond.selects yX9_canBe.cls yX9_canBe yX9_canBe ∈ zTb := zp_9 (List.mem_of_getElem? (i := 7) rfl)
theorem zd_X9_canBe : yX9_canBe.cls ≠ "java/lang/invoke/MethodHandle" ∧ yX9_canBe.cls ≠ "java/lang/invoke/VarHandle" ∧ (parseMethodDescriptor yX9_canBe.desc).map (fun d => d.parameters.length) = some 3 := by decide +kernel
theorem klX9_275 : Cond.methodLink RX9 275 yX9_canBe ∈ zTb := (zTb_mem (zm_9 (List.mem_of_getElem? (i := 72) (by decide +kernel))) rfl)
theorem kvX9_275 : zCv RX9 275 yX9_canBe cX9_canBe 4 (some .boolean) 3 9 := ⟨⟨zc_X9_canBe, zi_X9_canBe, by decide, zd_X9_canBe, (Or.inl klX9_275)⟩, zx_X9_canBe, zv_X9_canBe, rfl⟩
theorem zc_X9_badAsked : Cond.code yX9_badAsked cX9_badAsked 2 (some .boolean) ∈ zTb := (zTb_mem (zm_9 (List.mem_of_getElem? (i := 63) (by decide +kernel))) rfl)
theorem zi_X9_badAsked : Cond.initialized yX9_badAsked.cls ∈ zTb := (zTb_mem (zm_1 (List.mem_of_getElem? (i := 9) (by decide +kernel))) rfl)
theorem zx_X9_badAsked : Cond.instanceMethod yX9_badAsked ∈ zTb := (zTb_mem (zm_9 (List.mem_of_getElem? (i := 62) (by decide +kernel))) rfl)
theorem zv_X9_badAsked : Cond.selects yX9_badAsked.cls yX9_badAsked yX9_badAsked ∈ zTb := zp_9 (List.mem_of_getElem? (i := 4) rfl)
theorem zd_X9_badAsked : yX9_badAsked.cls ≠ "java/lang/invoke/MethodHandle" ∧ yX9_badAsked.cls ≠ "java/lang/invoke/VarHandle" ∧ (parseMethodDescriptor yX9_badAsked.desc).map (fun d => d.parameters.length) = some 1 := by decide +kernel
theorem klX9_278 : Cond.methodLink RX9 278 yX9_badAsked ∈ zTb := (zTb_mem (zm_9 (List.mem_of_getElem? (i := 60) (by decide +kernel))) rfl)
theorem kvX9_278 : zCv RX9 278 yX9_badAsked cX9_badAsked 2 (some .boolean) 1 9 := ⟨⟨zc_X9_badAsked, zi_X9_badAsked, by decide, zd_X9_badAsked, (Or.inl klX9_278)⟩, zx_X9_badAsked, zv_X9_badAsked, rfl⟩
theorem zc_X9_findToday : Cond.code yX9_findToday cX9_findToday 9 (none) ∈ zTb := (zTb_mem (zm_9 (List.mem_of_getElem? (i := 67) (by decide +kernel))) rfl)
theorem zi_X9_findToday : Cond.initialized yX9_findToday.cls ∈ zTb := (zTb_mem (zm_1 (List.mem_of_getElem? (i := 9) (by decide +kernel))) rfl)
theorem zx_X9_findToday : Cond.instanceMethod yX9_findToday ∈ zTb := (zTb_mem (zm_9 (List.mem_of_getElem? (i := 66) (by decide +kernel))) rfl)
theorem zv_X9_findToday : Cond.selects yX9_findToday.cls yX9_findToday yX9_findToday ∈ zTb := zp_9 (List.mem_of_getElem? (i := 5) rfl)
theorem zd_X9_findToday : yX9_findToday.cls ≠ "java/lang/invoke/MethodHandle" ∧ yX9_findToday.cls ≠ "java/lang/invoke/VarHandle" ∧ (parseMethodDescriptor yX9_findToday.desc).map (fun d => d.parameters.length) = some 2 := by decide +kernel
theorem klX9_281 : Cond.methodLink RX9 281 yX9_findToday ∈ zTb := (zTb_mem (zm_9 (List.mem_of_getElem? (i := 64) (by decide +kernel))) rfl)
theorem kvX9_281 : zCv RX9 281 yX9_findToday cX9_findToday 9 (none) 2 9 := ⟨⟨zc_X9_findToday, zi_X9_findToday, by decide, zd_X9_findToday, (Or.inl klX9_281)⟩, zx_X9_findToday, zv_X9_findToday, rfl⟩
theorem zc_X9_canAll : Cond.code yX9_canAll cX9_canAll 8 (some .boolean) ∈ zTb := (zTb_mem (zm_9 (List.mem_of_getElem? (i := 91) (by decide +kernel))) rfl)
theorem zi_X9_canAll : Cond.initialized yX9_canAll.cls ∈ zTb := (zTb_mem (zm_1 (List.mem_of_getElem? (i := 9) (by decide +kernel))) rfl)
theorem zx_X9_canAll : Cond.instanceMethod yX9_canAll ∈ zTb := (zTb_mem (zm_9 (List.mem_of_getElem? (i := 90) (by decide +kernel))) rfl)
theorem zv_X9_canAll : Cond.selects yX9_canAll.cls yX9_canAll yX9_canAll ∈ zTb := zp_9 (List.mem_of_getElem? (i := 10) rfl)
theorem zd_X9_canAll : yX9_canAll.cls ≠ "java/lang/invoke/MethodHandle" ∧ yX9_canAll.cls ≠ "java/lang/invoke/VarHandle" ∧ (parseMethodDescriptor yX9_canAll.desc).map (fun d => d.parameters.length) = some 3 := by decide +kernel
theorem klX9_284 : Cond.methodLink RX9 284 yX9_canAll ∈ zTb := (zTb_mem (zm_9 (List.mem_of_getElem? (i := 88) (by decide +kernel))) rfl)
theorem kvX9_284 : zCv RX9 284 yX9_canAll cX9_canAll 8 (some .boolean) 3 9 := ⟨⟨zc_X9_canAll, zi_X9_canAll, by decide, zd_X9_canAll, (Or.inl klX9_284)⟩, zx_X9_canAll, zv_X9_canAll, rfl⟩
theorem zc_X9_findPairs : Cond.code yX9_findPairs cX9_findPairs 8 (none) ∈ zTb := (zTb_mem (zm_9 (List.mem_of_getElem? (i := 87) (by decide +kernel))) rfl)
theorem zi_X9_findPairs : Cond.initialized yX9_findPairs.cls ∈ zTb := (zTb_mem (zm_1 (List.mem_of_getElem? (i := 9) (by decide +kernel))) rfl)
theorem zx_X9_findPairs : Cond.instanceMethod yX9_findPairs ∈ zTb := (zTb_mem (zm_9 (List.mem_of_getElem? (i := 86) (by decide +kernel))) rfl)
theorem zv_X9_findPairs : Cond.selects yX9_findPairs.cls yX9_findPairs yX9_findPairs ∈ zTb := zp_9 (List.mem_of_getElem? (i := 9) rfl)
theorem zd_X9_findPairs : yX9_findPairs.cls ≠ "java/lang/invoke/MethodHandle" ∧ yX9_findPairs.cls ≠ "java/lang/invoke/VarHandle" ∧ (parseMethodDescriptor yX9_findPairs.desc).map (fun d => d.parameters.length) = some 1 := by decide +kernel
theorem klX9_287 : Cond.methodLink RX9 287 yX9_findPairs ∈ zTb := (zTb_mem (zm_9 (List.mem_of_getElem? (i := 84) (by decide +kernel))) rfl)
theorem kvX9_287 : zCv RX9 287 yX9_findPairs cX9_findPairs 8 (none) 1 9 := ⟨⟨zc_X9_findPairs, zi_X9_findPairs, by decide, zd_X9_findPairs, (Or.inl klX9_287)⟩, zx_X9_findPairs, zv_X9_findPairs, rfl⟩
theorem zc_X9_ones : Cond.code yX9_ones cX9_ones 3 (some .int) ∈ zTb := (zTb_mem (zm_9 (List.mem_of_getElem? (i := 102) (by decide +kernel))) rfl)
theorem zi_X9_ones : Cond.initialized yX9_ones.cls ∈ zTb := (zTb_mem (zm_1 (List.mem_of_getElem? (i := 9) (by decide +kernel))) rfl)
theorem zs_X9_ones : Cond.static yX9_ones ∈ zTb := (zTb_mem (zm_9 (List.mem_of_getElem? (i := 101) (by decide +kernel))) rfl)
theorem zd_X9_ones : yX9_ones.cls ≠ "java/lang/invoke/MethodHandle" ∧ yX9_ones.cls ≠ "java/lang/invoke/VarHandle" ∧ (parseMethodDescriptor yX9_ones.desc).map (fun d => d.parameters.length) = some 1 := by decide +kernel
theorem klX9_290 : Cond.methodLink RX9 290 yX9_ones ∈ zTb := (zTb_mem (zm_9 (List.mem_of_getElem? (i := 100) (by decide +kernel))) rfl)
theorem ksX9_290 : zCs RX9 290 yX9_ones cX9_ones 3 (some .int) 1 := ⟨⟨zc_X9_ones, zi_X9_ones, by decide, zd_X9_ones, (Or.inl klX9_290)⟩, zs_X9_ones⟩
theorem zc_X9_secondOf : Cond.code yX9_secondOf cX9_secondOf 5 (some .int) ∈ zTb := (zTb_mem (zm_9 (List.mem_of_getElem? (i := 122) (by decide +kernel))) rfl)
theorem zi_X9_secondOf : Cond.initialized yX9_secondOf.cls ∈ zTb := (zTb_mem (zm_1 (List.mem_of_getElem? (i := 9) (by decide +kernel))) rfl)
theorem zx_X9_secondOf : Cond.instanceMethod yX9_secondOf ∈ zTb := (zTb_mem (zm_9 (List.mem_of_getElem? (i := 121) (by decide +kernel))) rfl)
theorem zv_X9_secondOf : Cond.selects yX9_secondOf.cls yX9_secondOf yX9_secondOf ∈ zTb := zp_9 (List.mem_of_getElem? (i := 11) rfl)
theorem zd_X9_secondOf : yX9_secondOf.cls ≠ "java/lang/invoke/MethodHandle" ∧ yX9_secondOf.cls ≠ "java/lang/invoke/VarHandle" ∧ (parseMethodDescriptor yX9_secondOf.desc).map (fun d => d.parameters.length) = some 3 := by decide +kernel
theorem klX9_293 : Cond.methodLink RX9 293 yX9_secondOf ∈ zTb := (zTb_mem (zm_9 (List.mem_of_getElem? (i := 119) (by decide +kernel))) rfl)
theorem kvX9_293 : zCv RX9 293 yX9_secondOf cX9_secondOf 5 (some .int) 3 9 := ⟨⟨zc_X9_secondOf, zi_X9_secondOf, by decide, zd_X9_secondOf, (Or.inl klX9_293)⟩, zx_X9_secondOf, zv_X9_secondOf, rfl⟩
theorem zc_X9_coded : Cond.code yX9_coded cX9_coded 3 (some .int) ∈ zTb := (zTb_mem (zm_9 (List.mem_of_getElem? (i := 129) (by decide +kernel))) rfl)
theorem zi_X9_coded : Cond.initialized yX9_coded.cls ∈ zTb := (zTb_mem (zm_1 (List.mem_of_getElem? (i := 9) (by decide +kernel))) rfl)
theorem zs_X9_coded : Cond.static yX9_coded ∈ zTb := (zTb_mem (zm_9 (List.mem_of_getElem? (i := 128) (by decide +kernel))) rfl)
theorem zd_X9_coded : yX9_coded.cls ≠ "java/lang/invoke/MethodHandle" ∧ yX9_coded.cls ≠ "java/lang/invoke/VarHandle" ∧ (parseMethodDescriptor yX9_coded.desc).map (fun d => d.parameters.length) = some 3 := by decide +kernel
theorem klX9_296 : Cond.methodLink RX9 296 yX9_coded ∈ zTb := (zTb_mem (zm_9 (List.mem_of_getElem? (i := 127) (by decide +kernel))) rfl)
theorem ksX9_296 : zCs RX9 296 yX9_coded cX9_coded 3 (some .int) 3 := ⟨⟨zc_X9_coded, zi_X9_coded, by decide, zd_X9_coded, (Or.inl klX9_296)⟩, zs_X9_coded⟩
theorem zc_X9_bestNow : Cond.code yX9_bestNow cX9_bestNow 6 (some .int) ∈ zTb := (zTb_mem (zm_9 (List.mem_of_getElem? (i := 126) (by decide +kernel))) rfl)
theorem zi_X9_bestNow : Cond.initialized yX9_bestNow.cls ∈ zTb := (zTb_mem (zm_1 (List.mem_of_getElem? (i := 9) (by decide +kernel))) rfl)
theorem zx_X9_bestNow : Cond.instanceMethod yX9_bestNow ∈ zTb := (zTb_mem (zm_9 (List.mem_of_getElem? (i := 125) (by decide +kernel))) rfl)
theorem zv_X9_bestNow : Cond.selects yX9_bestNow.cls yX9_bestNow yX9_bestNow ∈ zTb := zp_9 (List.mem_of_getElem? (i := 12) rfl)
theorem zd_X9_bestNow : yX9_bestNow.cls ≠ "java/lang/invoke/MethodHandle" ∧ yX9_bestNow.cls ≠ "java/lang/invoke/VarHandle" ∧ (parseMethodDescriptor yX9_bestNow.desc).map (fun d => d.parameters.length) = some 0 := by decide +kernel
theorem klX9_299 : Cond.methodLink RX9 299 yX9_bestNow ∈ zTb := (zTb_mem (zm_9 (List.mem_of_getElem? (i := 123) (by decide +kernel))) rfl)
theorem kvX9_299 : zCv RX9 299 yX9_bestNow cX9_bestNow 6 (some .int) 0 9 := ⟨⟨zc_X9_bestNow, zi_X9_bestNow, by decide, zd_X9_bestNow, (Or.inl klX9_299)⟩, zx_X9_bestNow, zv_X9_bestNow, rfl⟩
theorem zc_X9_isAhead : Cond.code yX9_isAhead cX9_isAhead 11 (some .boolean) ∈ zTb := (zTb_mem (zm_9 (List.mem_of_getElem? (i := 150) (by decide +kernel))) rfl)
theorem zi_X9_isAhead : Cond.initialized yX9_isAhead.cls ∈ zTb := (zTb_mem (zm_1 (List.mem_of_getElem? (i := 9) (by decide +kernel))) rfl)
theorem zx_X9_isAhead : Cond.instanceMethod yX9_isAhead ∈ zTb := (zTb_mem (zm_9 (List.mem_of_getElem? (i := 149) (by decide +kernel))) rfl)
theorem zv_X9_isAhead : Cond.selects yX9_isAhead.cls yX9_isAhead yX9_isAhead ∈ zTb := zp_10 (List.mem_of_getElem? (i := 0) rfl)
theorem zd_X9_isAhead : yX9_isAhead.cls ≠ "java/lang/invoke/MethodHandle" ∧ yX9_isAhead.cls ≠ "java/lang/invoke/VarHandle" ∧ (parseMethodDescriptor yX9_isAhead.desc).map (fun d => d.parameters.length) = some 3 := by decide +kernel
theorem klX9_302 : Cond.methodLink RX9 302 yX9_isAhead ∈ zTb := (zTb_mem (zm_9 (List.mem_of_getElem? (i := 147) (by decide +kernel))) rfl)
theorem kvX9_302 : zCv RX9 302 yX9_isAhead cX9_isAhead 11 (some .boolean) 3 9 := ⟨⟨zc_X9_isAhead, zi_X9_isAhead, by decide, zd_X9_isAhead, (Or.inl klX9_302)⟩, zx_X9_isAhead, zv_X9_isAhead, rfl⟩
theorem zc_X9_chosen : Cond.code yX9_chosen cX9_chosen 7 (some .int) ∈ zTb := (zTb_mem (zm_9 (List.mem_of_getElem? (i := 146) (by decide +kernel))) rfl)
theorem zi_X9_chosen : Cond.initialized yX9_chosen.cls ∈ zTb := (zTb_mem (zm_1 (List.mem_of_getElem? (i := 9) (by decide +kernel))) rfl)
theorem zx_X9_chosen : Cond.instanceMethod yX9_chosen ∈ zTb := (zTb_mem (zm_9 (List.mem_of_getElem? (i := 145) (by decide +kernel))) rfl)
theorem zv_X9_chosen : Cond.selects yX9_chosen.cls yX9_chosen yX9_chosen ∈ zTb := zp_9 (List.mem_of_getElem? (i := 15) rfl)
theorem zd_X9_chosen : yX9_chosen.cls ≠ "java/lang/invoke/MethodHandle" ∧ yX9_chosen.cls ≠ "java/lang/invoke/VarHandle" ∧ (parseMethodDescriptor yX9_chosen.desc).map (fun d => d.parameters.length) = some 1 := by decide +kernel
theorem klX9_312 : Cond.methodLink RX9 312 yX9_chosen ∈ zTb := (zTb_mem (zm_9 (List.mem_of_getElem? (i := 143) (by decide +kernel))) rfl)
theorem kvX9_312 : zCv RX9 312 yX9_chosen cX9_chosen 7 (some .int) 1 9 := ⟨⟨zc_X9_chosen, zi_X9_chosen, by decide, zd_X9_chosen, (Or.inl klX9_312)⟩, zx_X9_chosen, zv_X9_chosen, rfl⟩
theorem zc_X9_areDays : Cond.code yX9_areDays cX9_areDays 2 (some .boolean) ∈ zTb := (zTb_mem (zm_9 (List.mem_of_getElem? (i := 137) (by decide +kernel))) rfl)
theorem zi_X9_areDays : Cond.initialized yX9_areDays.cls ∈ zTb := (zTb_mem (zm_1 (List.mem_of_getElem? (i := 9) (by decide +kernel))) rfl)
theorem zx_X9_areDays : Cond.instanceMethod yX9_areDays ∈ zTb := (zTb_mem (zm_9 (List.mem_of_getElem? (i := 136) (by decide +kernel))) rfl)
theorem zv_X9_areDays : Cond.selects yX9_areDays.cls yX9_areDays yX9_areDays ∈ zTb := zp_9 (List.mem_of_getElem? (i := 13) rfl)
theorem zd_X9_areDays : yX9_areDays.cls ≠ "java/lang/invoke/MethodHandle" ∧ yX9_areDays.cls ≠ "java/lang/invoke/VarHandle" ∧ (parseMethodDescriptor yX9_areDays.desc).map (fun d => d.parameters.length) = some 1 := by decide +kernel
theorem klX9_315 : Cond.methodLink RX9 315 yX9_areDays ∈ zTb := (zTb_mem (zm_9 (List.mem_of_getElem? (i := 134) (by decide +kernel))) rfl)
theorem kvX9_315 : zCv RX9 315 yX9_areDays cX9_areDays 2 (some .boolean) 1 9 := ⟨⟨zc_X9_areDays, zi_X9_areDays, by decide, zd_X9_areDays, (Or.inl klX9_315)⟩, zx_X9_areDays, zv_X9_areDays, rfl⟩
theorem zc_X9_runs : Cond.code yX9_runs cX9_runs 8 (none) ∈ zTb := (zTb_mem (zm_9 (List.mem_of_getElem? (i := 141) (by decide +kernel))) rfl)
theorem zi_X9_runs : Cond.initialized yX9_runs.cls ∈ zTb := (zTb_mem (zm_1 (List.mem_of_getElem? (i := 9) (by decide +kernel))) rfl)
theorem zx_X9_runs : Cond.instanceMethod yX9_runs ∈ zTb := (zTb_mem (zm_9 (List.mem_of_getElem? (i := 140) (by decide +kernel))) rfl)
theorem zv_X9_runs : Cond.selects yX9_runs.cls yX9_runs yX9_runs ∈ zTb := zp_9 (List.mem_of_getElem? (i := 14) rfl)
theorem zd_X9_runs : yX9_runs.cls ≠ "java/lang/invoke/MethodHandle" ∧ yX9_runs.cls ≠ "java/lang/invoke/VarHandle" ∧ (parseMethodDescriptor yX9_runs.desc).map (fun d => d.parameters.length) = some 3 := by decide +kernel
theorem klX9_318 : Cond.methodLink RX9 318 yX9_runs ∈ zTb := (zTb_mem (zm_9 (List.mem_of_getElem? (i := 138) (by decide +kernel))) rfl)
theorem kvX9_318 : zCv RX9 318 yX9_runs cX9_runs 8 (none) 3 9 := ⟨⟨zc_X9_runs, zi_X9_runs, by decide, zd_X9_runs, (Or.inl klX9_318)⟩, zx_X9_runs, zv_X9_runs, rfl⟩
theorem zc_X9_becomes : Cond.code yX9_becomes cX9_becomes 5 (none) ∈ zTb := (zTb_mem (zm_9 (List.mem_of_getElem? (i := 178) (by decide +kernel))) rfl)
theorem zi_X9_becomes : Cond.initialized yX9_becomes.cls ∈ zTb := (zTb_mem (zm_1 (List.mem_of_getElem? (i := 9) (by decide +kernel))) rfl)
theorem zx_X9_becomes : Cond.instanceMethod yX9_becomes ∈ zTb := (zTb_mem (zm_9 (List.mem_of_getElem? (i := 177) (by decide +kernel))) rfl)
theorem zv_X9_becomes : Cond.selects yX9_becomes.cls yX9_becomes yX9_becomes ∈ zTb := zp_10 (List.mem_of_getElem? (i := 4) rfl)
theorem zd_X9_becomes : yX9_becomes.cls ≠ "java/lang/invoke/MethodHandle" ∧ yX9_becomes.cls ≠ "java/lang/invoke/VarHandle" ∧ (parseMethodDescriptor yX9_becomes.desc).map (fun d => d.parameters.length) = some 2 := by decide +kernel
theorem klX9_325 : Cond.methodLink RX9 325 yX9_becomes ∈ zTb := (zTb_mem (zm_9 (List.mem_of_getElem? (i := 175) (by decide +kernel))) rfl)
theorem kvX9_325 : zCv RX9 325 yX9_becomes cX9_becomes 5 (none) 2 9 := ⟨⟨zc_X9_becomes, zi_X9_becomes, by decide, zd_X9_becomes, (Or.inl klX9_325)⟩, zx_X9_becomes, zv_X9_becomes, rfl⟩
theorem zc_X9_isApart : Cond.code yX9_isApart cX9_isApart 4 (some .boolean) ∈ zTb := (zTb_mem (zm_9 (List.mem_of_getElem? (i := 182) (by decide +kernel))) rfl)
theorem zi_X9_isApart : Cond.initialized yX9_isApart.cls ∈ zTb := (zTb_mem (zm_1 (List.mem_of_getElem? (i := 9) (by decide +kernel))) rfl)
theorem zx_X9_isApart : Cond.instanceMethod yX9_isApart ∈ zTb := (zTb_mem (zm_9 (List.mem_of_getElem? (i := 181) (by decide +kernel))) rfl)
theorem zv_X9_isApart : Cond.selects yX9_isApart.cls yX9_isApart yX9_isApart ∈ zTb := zp_10 (List.mem_of_getElem? (i := 5) rfl)
theorem zd_X9_isApart : yX9_isApart.cls ≠ "java/lang/invoke/MethodHandle" ∧ yX9_isApart.cls ≠ "java/lang/invoke/VarHandle" ∧ (parseMethodDescriptor yX9_isApart.desc).map (fun d => d.parameters.length) = some 3 := by decide +kernel
theorem klX9_328 : Cond.methodLink RX9 328 yX9_isApart ∈ zTb := (zTb_mem (zm_9 (List.mem_of_getElem? (i := 179) (by decide +kernel))) rfl)
theorem kvX9_328 : zCv RX9 328 yX9_isApart cX9_isApart 4 (some .boolean) 3 9 := ⟨⟨zc_X9_isApart, zi_X9_isApart, by decide, zd_X9_isApart, (Or.inl klX9_328)⟩, zx_X9_isApart, zv_X9_isApart, rfl⟩
theorem zc_X9_stateNow : Cond.code yX9_stateNow cX9_stateNow 4 (some .int) ∈ zTb := (zTb_mem (zm_9 (List.mem_of_getElem? (i := 166) (by decide +kernel))) rfl)
theorem zi_X9_stateNow : Cond.initialized yX9_stateNow.cls ∈ zTb := (zTb_mem (zm_1 (List.mem_of_getElem? (i := 9) (by decide +kernel))) rfl)
theorem zx_X9_stateNow : Cond.instanceMethod yX9_stateNow ∈ zTb := (zTb_mem (zm_9 (List.mem_of_getElem? (i := 165) (by decide +kernel))) rfl)
theorem zv_X9_stateNow : Cond.selects yX9_stateNow.cls yX9_stateNow yX9_stateNow ∈ zTb := zp_10 (List.mem_of_getElem? (i := 1) rfl)
theorem zd_X9_stateNow : yX9_stateNow.cls ≠ "java/lang/invoke/MethodHandle" ∧ yX9_stateNow.cls ≠ "java/lang/invoke/VarHandle" ∧ (parseMethodDescriptor yX9_stateNow.desc).map (fun d => d.parameters.length) = some 1 := by decide +kernel
theorem klX9_331 : Cond.methodLink RX9 331 yX9_stateNow ∈ zTb := (zTb_mem (zm_9 (List.mem_of_getElem? (i := 163) (by decide +kernel))) rfl)
theorem kvX9_331 : zCv RX9 331 yX9_stateNow cX9_stateNow 4 (some .int) 1 9 := ⟨⟨zc_X9_stateNow, zi_X9_stateNow, by decide, zd_X9_stateNow, (Or.inl klX9_331)⟩, zx_X9_stateNow, zv_X9_stateNow, rfl⟩
theorem zc_X9_behind : Cond.code yX9_behind cX9_behind 6 (some .int) ∈ zTb := (zTb_mem (zm_9 (List.mem_of_getElem? (i := 174) (by decide +kernel))) rfl)
theorem zi_X9_behind : Cond.initialized yX9_behind.cls ∈ zTb := (zTb_mem (zm_1 (List.mem_of_getElem? (i := 9) (by decide +kernel))) rfl)
theorem zx_X9_behind : Cond.instanceMethod yX9_behind ∈ zTb := (zTb_mem (zm_9 (List.mem_of_getElem? (i := 173) (by decide +kernel))) rfl)
theorem zv_X9_behind : Cond.selects yX9_behind.cls yX9_behind yX9_behind ∈ zTb := zp_10 (List.mem_of_getElem? (i := 3) rfl)
theorem zd_X9_behind : yX9_behind.cls ≠ "java/lang/invoke/MethodHandle" ∧ yX9_behind.cls ≠ "java/lang/invoke/VarHandle" ∧ (parseMethodDescriptor yX9_behind.desc).map (fun d => d.parameters.length) = some 3 := by decide +kernel
theorem klX9_334 : Cond.methodLink RX9 334 yX9_behind ∈ zTb := (zTb_mem (zm_9 (List.mem_of_getElem? (i := 171) (by decide +kernel))) rfl)
theorem kvX9_334 : zCv RX9 334 yX9_behind cX9_behind 6 (some .int) 3 9 := ⟨⟨zc_X9_behind, zi_X9_behind, by decide, zd_X9_behind, (Or.inl klX9_334)⟩, zx_X9_behind, zv_X9_behind, rfl⟩
theorem zc_X9_mostFrom : Cond.code yX9_mostFrom cX9_mostFrom 7 (some .int) ∈ zTb := (zTb_mem (zm_9 (List.mem_of_getElem? (i := 170) (by decide +kernel))) rfl)
theorem zi_X9_mostFrom : Cond.initialized yX9_mostFrom.cls ∈ zTb := (zTb_mem (zm_1 (List.mem_of_getElem? (i := 9) (by decide +kernel))) rfl)
theorem zx_X9_mostFrom : Cond.instanceMethod yX9_mostFrom ∈ zTb := (zTb_mem (zm_9 (List.mem_of_getElem? (i := 169) (by decide +kernel))) rfl)
theorem zv_X9_mostFrom : Cond.selects yX9_mostFrom.cls yX9_mostFrom yX9_mostFrom ∈ zTb := zp_10 (List.mem_of_getElem? (i := 2) rfl)
theorem zd_X9_mostFrom : yX9_mostFrom.cls ≠ "java/lang/invoke/MethodHandle" ∧ yX9_mostFrom.cls ≠ "java/lang/invoke/VarHandle" ∧ (parseMethodDescriptor yX9_mostFrom.desc).map (fun d => d.parameters.length) = some 2 := by decide +kernel
theorem klX9_337 : Cond.methodLink RX9 337 yX9_mostFrom ∈ zTb := (zTb_mem (zm_9 (List.mem_of_getElem? (i := 167) (by decide +kernel))) rfl)
theorem kvX9_337 : zCv RX9 337 yX9_mostFrom cX9_mostFrom 7 (some .int) 2 9 := ⟨⟨zc_X9_mostFrom, zi_X9_mostFrom, by decide, zd_X9_mostFrom, (Or.inl klX9_337)⟩, zx_X9_mostFrom, zv_X9_mostFrom, rfl⟩
theorem zc_X9_more : Cond.code yX9_more cX9_more 2 (some .int) ∈ zTb := (zTb_mem (zm_9 (List.mem_of_getElem? (i := 185) (by decide +kernel))) rfl)
theorem zi_X9_more : Cond.initialized yX9_more.cls ∈ zTb := (zTb_mem (zm_1 (List.mem_of_getElem? (i := 9) (by decide +kernel))) rfl)
theorem zs_X9_more : Cond.static yX9_more ∈ zTb := (zTb_mem (zm_9 (List.mem_of_getElem? (i := 184) (by decide +kernel))) rfl)
theorem zd_X9_more : yX9_more.cls ≠ "java/lang/invoke/MethodHandle" ∧ yX9_more.cls ≠ "java/lang/invoke/VarHandle" ∧ (parseMethodDescriptor yX9_more.desc).map (fun d => d.parameters.length) = some 2 := by decide +kernel
theorem klX9_341 : Cond.methodLink RX9 341 yX9_more ∈ zTb := (zTb_mem (zm_9 (List.mem_of_getElem? (i := 183) (by decide +kernel))) rfl)
theorem ksX9_341 : zCs RX9 341 yX9_more cX9_more 2 (some .int) 2 := ⟨⟨zc_X9_more, zi_X9_more, by decide, zd_X9_more, (Or.inl klX9_341)⟩, zs_X9_more⟩
theorem zc_X9_soonest : Cond.code yX9_soonest cX9_soonest 8 (some .int) ∈ zTb := (zTb_mem (zm_9 (List.mem_of_getElem? (i := 189) (by decide +kernel))) rfl)
theorem zi_X9_soonest : Cond.initialized yX9_soonest.cls ∈ zTb := (zTb_mem (zm_1 (List.mem_of_getElem? (i := 9) (by decide +kernel))) rfl)
theorem zx_X9_soonest : Cond.instanceMethod yX9_soonest ∈ zTb := (zTb_mem (zm_9 (List.mem_of_getElem? (i := 188) (by decide +kernel))) rfl)
theorem zv_X9_soonest : Cond.selects yX9_soonest.cls yX9_soonest yX9_soonest ∈ zTb := zp_10 (List.mem_of_getElem? (i := 6) rfl)
theorem zd_X9_soonest : yX9_soonest.cls ≠ "java/lang/invoke/MethodHandle" ∧ yX9_soonest.cls ≠ "java/lang/invoke/VarHandle" ∧ (parseMethodDescriptor yX9_soonest.desc).map (fun d => d.parameters.length) = some 2 := by decide +kernel
theorem klX9_344 : Cond.methodLink RX9 344 yX9_soonest ∈ zTb := (zTb_mem (zm_9 (List.mem_of_getElem? (i := 186) (by decide +kernel))) rfl)
theorem kvX9_344 : zCv RX9 344 yX9_soonest cX9_soonest 8 (some .int) 2 9 := ⟨⟨zc_X9_soonest, zi_X9_soonest, by decide, zd_X9_soonest, (Or.inl klX9_344)⟩, zx_X9_soonest, zv_X9_soonest, rfl⟩
theorem zc_X9_isTwo : Cond.code yX9_isTwo cX9_isTwo 5 (some .boolean) ∈ zTb := (zTb_mem (zm_9 (List.mem_of_getElem? (i := 201) (by decide +kernel))) rfl)
theorem zi_X9_isTwo : Cond.initialized yX9_isTwo.cls ∈ zTb := (zTb_mem (zm_1 (List.mem_of_getElem? (i := 9) (by decide +kernel))) rfl)
theorem zx_X9_isTwo : Cond.instanceMethod yX9_isTwo ∈ zTb := (zTb_mem (zm_9 (List.mem_of_getElem? (i := 200) (by decide +kernel))) rfl)
theorem zv_X9_isTwo : Cond.selects yX9_isTwo.cls yX9_isTwo yX9_isTwo ∈ zTb := zp_10 (List.mem_of_getElem? (i := 8) rfl)
theorem zd_X9_isTwo : yX9_isTwo.cls ≠ "java/lang/invoke/MethodHandle" ∧ yX9_isTwo.cls ≠ "java/lang/invoke/VarHandle" ∧ (parseMethodDescriptor yX9_isTwo.desc).map (fun d => d.parameters.length) = some 4 := by decide +kernel
theorem klX9_347 : Cond.methodLink RX9 347 yX9_isTwo ∈ zTb := (zTb_mem (zm_9 (List.mem_of_getElem? (i := 198) (by decide +kernel))) rfl)
theorem kvX9_347 : zCv RX9 347 yX9_isTwo cX9_isTwo 5 (some .boolean) 4 9 := ⟨⟨zc_X9_isTwo, zi_X9_isTwo, by decide, zd_X9_isTwo, (Or.inl klX9_347)⟩, zx_X9_isTwo, zv_X9_isTwo, rfl⟩
theorem zc_X9_countOf : Cond.code yX9_countOf cX9_countOf 8 (some .int) ∈ zTb := (zTb_mem (zm_9 (List.mem_of_getElem? (i := 197) (by decide +kernel))) rfl)
theorem zi_X9_countOf : Cond.initialized yX9_countOf.cls ∈ zTb := (zTb_mem (zm_1 (List.mem_of_getElem? (i := 9) (by decide +kernel))) rfl)
theorem zx_X9_countOf : Cond.instanceMethod yX9_countOf ∈ zTb := (zTb_mem (zm_9 (List.mem_of_getElem? (i := 196) (by decide +kernel))) rfl)
theorem zv_X9_countOf : Cond.selects yX9_countOf.cls yX9_countOf yX9_countOf ∈ zTb := zp_10 (List.mem_of_getElem? (i := 7) rfl)
theorem zd_X9_countOf : yX9_countOf.cls ≠ "java/lang/invoke/MethodHandle" ∧ yX9_countOf.cls ≠ "java/lang/invoke/VarHandle" ∧ (parseMethodDescriptor yX9_countOf.desc).map (fun d => d.parameters.length) = some 3 := by decide +kernel
theorem klX9_351 : Cond.methodLink RX9 351 yX9_countOf ∈ zTb := (zTb_mem (zm_9 (List.mem_of_getElem? (i := 194) (by decide +kernel))) rfl)
theorem kvX9_351 : zCv RX9 351 yX9_countOf cX9_countOf 8 (some .int) 3 9 := ⟨⟨zc_X9_countOf, zi_X9_countOf, by decide, zd_X9_countOf, (Or.inl klX9_351)⟩, zx_X9_countOf, zv_X9_countOf, rfl⟩
theorem zc_X9_less : Cond.code yX9_less cX9_less 2 (some .int) ∈ zTb := (zTb_mem (zm_9 (List.mem_of_getElem? (i := 212) (by decide +kernel))) rfl)
theorem zi_X9_less : Cond.initialized yX9_less.cls ∈ zTb := (zTb_mem (zm_1 (List.mem_of_getElem? (i := 9) (by decide +kernel))) rfl)
theorem zs_X9_less : Cond.static yX9_less ∈ zTb := (zTb_mem (zm_9 (List.mem_of_getElem? (i := 211) (by decide +kernel))) rfl)
theorem zd_X9_less : yX9_less.cls ≠ "java/lang/invoke/MethodHandle" ∧ yX9_less.cls ≠ "java/lang/invoke/VarHandle" ∧ (parseMethodDescriptor yX9_less.desc).map (fun d => d.parameters.length) = some 2 := by decide +kernel
theorem klX9_355 : Cond.methodLink RX9 355 yX9_less ∈ zTb := (zTb_mem (zm_9 (List.mem_of_getElem? (i := 210) (by decide +kernel))) rfl)
theorem ksX9_355 : zCs RX9 355 yX9_less cX9_less 2 (some .int) 2 := ⟨⟨zc_X9_less, zi_X9_less, by decide, zd_X9_less, (Or.inl klX9_355)⟩, zs_X9_less⟩
theorem zc_X9_pairsIn : Cond.code yX9_pairsIn cX9_pairsIn 7 (some .int) ∈ zTb := (zTb_mem (zm_9 (List.mem_of_getElem? (i := 220) (by decide +kernel))) rfl)
theorem zi_X9_pairsIn : Cond.initialized yX9_pairsIn.cls ∈ zTb := (zTb_mem (zm_1 (List.mem_of_getElem? (i := 9) (by decide +kernel))) rfl)
theorem zx_X9_pairsIn : Cond.instanceMethod yX9_pairsIn ∈ zTb := (zTb_mem (zm_9 (List.mem_of_getElem? (i := 219) (by decide +kernel))) rfl)
theorem zv_X9_pairsIn : Cond.selects yX9_pairsIn.cls yX9_pairsIn yX9_pairsIn ∈ zTb := zp_10 (List.mem_of_getElem? (i := 9) rfl)
theorem zd_X9_pairsIn : yX9_pairsIn.cls ≠ "java/lang/invoke/MethodHandle" ∧ yX9_pairsIn.cls ≠ "java/lang/invoke/VarHandle" ∧ (parseMethodDescriptor yX9_pairsIn.desc).map (fun d => d.parameters.length) = some 2 := by decide +kernel
theorem klX9_358 : Cond.methodLink RX9 358 yX9_pairsIn ∈ zTb := (zTb_mem (zm_9 (List.mem_of_getElem? (i := 217) (by decide +kernel))) rfl)
theorem kvX9_358 : zCv RX9 358 yX9_pairsIn cX9_pairsIn 7 (some .int) 2 9 := ⟨⟨zc_X9_pairsIn, zi_X9_pairsIn, by decide, zd_X9_pairsIn, (Or.inl klX9_358)⟩, zx_X9_pairsIn, zv_X9_pairsIn, rfl⟩
theorem zc_X9_familyOf : Cond.code yX9_familyOf cX9_familyOf 5 (some .int) ∈ zTb := (zTb_mem (zm_9 (List.mem_of_getElem? (i := 232) (by decide +kernel))) rfl)
theorem zi_X9_familyOf : Cond.initialized yX9_familyOf.cls ∈ zTb := (zTb_mem (zm_1 (List.mem_of_getElem? (i := 9) (by decide +kernel))) rfl)
theorem zx_X9_familyOf : Cond.instanceMethod yX9_familyOf ∈ zTb := (zTb_mem (zm_9 (List.mem_of_getElem? (i := 231) (by decide +kernel))) rfl)
theorem zv_X9_familyOf : Cond.selects yX9_familyOf.cls yX9_familyOf yX9_familyOf ∈ zTb := zp_10 (List.mem_of_getElem? (i := 10) rfl)
theorem zd_X9_familyOf : yX9_familyOf.cls ≠ "java/lang/invoke/MethodHandle" ∧ yX9_familyOf.cls ≠ "java/lang/invoke/VarHandle" ∧ (parseMethodDescriptor yX9_familyOf.desc).map (fun d => d.parameters.length) = some 1 := by decide +kernel
theorem klX9_361 : Cond.methodLink RX9 361 yX9_familyOf ∈ zTb := (zTb_mem (zm_9 (List.mem_of_getElem? (i := 229) (by decide +kernel))) rfl)
theorem kvX9_361 : zCv RX9 361 yX9_familyOf cX9_familyOf 5 (some .int) 1 9 := ⟨⟨zc_X9_familyOf, zi_X9_familyOf, by decide, zd_X9_familyOf, (Or.inl klX9_361)⟩, zx_X9_familyOf, zv_X9_familyOf, rfl⟩
theorem zc_X9_thenBest : Cond.code yX9_thenBest cX9_thenBest 3 (some .int) ∈ zTb := (zTb_mem (zm_10 (List.mem_of_getElem? (i := 12) (by decide +kernel))) rfl)
theorem zi_X9_thenBest : Cond.initialized yX9_thenBest.cls ∈ zTb := (zTb_mem (zm_1 (List.mem_of_getElem? (i := 9) (by decide +kernel))) rfl)
theorem zx_X9_thenBest : Cond.instanceMethod yX9_thenBest ∈ zTb := (zTb_mem (zm_10 (List.mem_of_getElem? (i := 11) (by decide +kernel))) rfl)
theorem zv_X9_thenBest : Cond.selects yX9_thenBest.cls yX9_thenBest yX9_thenBest ∈ zTb := zp_10 (List.mem_of_getElem? (i := 11) rfl)
theorem zd_X9_thenBest : yX9_thenBest.cls ≠ "java/lang/invoke/MethodHandle" ∧ yX9_thenBest.cls ≠ "java/lang/invoke/VarHandle" ∧ (parseMethodDescriptor yX9_thenBest.desc).map (fun d => d.parameters.length) = some 1 := by decide +kernel
theorem klX9_364 : Cond.methodLink RX9 364 yX9_thenBest ∈ zTb := (zTb_mem (zm_10 (List.mem_of_getElem? (i := 9) (by decide +kernel))) rfl)
theorem kvX9_364 : zCv RX9 364 yX9_thenBest cX9_thenBest 3 (some .int) 1 9 := ⟨⟨zc_X9_thenBest, zi_X9_thenBest, by decide, zd_X9_thenBest, (Or.inl klX9_364)⟩, zx_X9_thenBest, zv_X9_thenBest, rfl⟩
theorem ksJ0_9 : Cond.fieldLink RJ0 9 "java/lang/String" "value" "[B" ∈ zTb := (zTb_mem (zm_4 (List.mem_of_getElem? (i := 3) (by decide +kernel))) rfl)
theorem ksJ0_15 : Cond.fieldLink RJ0 15 "java/lang/String" "coder" "B" ∈ zTb := (zTb_mem (zm_4 (List.mem_of_getElem? (i := 4) (by decide +kernel))) rfl)
theorem ksJ0_38 : Cond.fieldLink RJ0 38 "java/lang/String" "COMPACT_STRINGS" "Z" ∈ zTb := (zTb_mem (zm_3 (List.mem_of_getElem? (i := 106) (by decide +kernel))) rfl)
theorem zc_J0_coder_7d493 : Cond.code yJ0_coder_7d493 cJ0_coder_7d493 1 (some .byte) ∈ zTb := (zTb_mem (zm_3 (List.mem_of_getElem? (i := 105) (by decide +kernel))) rfl)
theorem zi_J0_coder_7d493 : Cond.initialized yJ0_coder_7d493.cls ∈ zTb := (zTb_mem (zm_1 (List.mem_of_getElem? (i := 16) (by decide +kernel))) rfl)
theorem zx_J0_coder_7d493 : Cond.instanceMethod yJ0_coder_7d493 ∈ zTb := (zTb_mem (zm_3 (List.mem_of_getElem? (i := 103) (by decide +kernel))) rfl)
theorem zv_J0_coder_7d493 : Cond.selects yJ0_coder_7d493.cls yJ0_coder_7d493 yJ0_coder_7d493 ∈ zTb := (zTb_mem (zm_3 (List.mem_of_getElem? (i := 104) (by decide +kernel))) rfl)
theorem zd_J0_coder_7d493 : yJ0_coder_7d493.cls ≠ "java/lang/invoke/MethodHandle" ∧ yJ0_coder_7d493.cls ≠ "java/lang/invoke/VarHandle" ∧ (parseMethodDescriptor yJ0_coder_7d493.desc).map (fun d => d.parameters.length) = some 0 := by decide +kernel
theorem klJ0_335 : Cond.methodLink RJ0 335 yJ0_coder_7d493 ∈ zTb := (zTb_mem (zm_3 (List.mem_of_getElem? (i := 102) (by decide +kernel))) rfl)
theorem kwJ0_335 : zCw RJ0 335 yJ0_coder_7d493 cJ0_coder_7d493 1 (some .byte) 0 := ⟨⟨zc_J0_coder_7d493, zi_J0_coder_7d493, by decide, zd_J0_coder_7d493, Or.inl klJ0_335⟩, zx_J0_coder_7d493, zv_J0_coder_7d493, rfl, klJ0_335⟩
theorem zc_J0_isLatin1_aae02 : Cond.code yJ0_isLatin1_aae02 cJ0_isLatin1_aae02 1 (some .boolean) ∈ zTb := (zTb_mem (zm_4 (List.mem_of_getElem? (i := 153) (by decide +kernel))) rfl)
theorem zi_J0_isLatin1_aae02 : Cond.initialized yJ0_isLatin1_aae02.cls ∈ zTb := (zTb_mem (zm_1 (List.mem_of_getElem? (i := 16) (by decide +kernel))) rfl)
theorem zx_J0_isLatin1_aae02 : Cond.instanceMethod yJ0_isLatin1_aae02 ∈ zTb := (zTb_mem (zm_4 (List.mem_of_getElem? (i := 151) (by decide +kernel))) rfl)
theorem zv_J0_isLatin1_aae02 : Cond.selects yJ0_isLatin1_aae02.cls yJ0_isLatin1_aae02 yJ0_isLatin1_aae02 ∈ zTb := (zTb_mem (zm_4 (List.mem_of_getElem? (i := 152) (by decide +kernel))) rfl)
theorem zd_J0_isLatin1_aae02 : yJ0_isLatin1_aae02.cls ≠ "java/lang/invoke/MethodHandle" ∧ yJ0_isLatin1_aae02.cls ≠ "java/lang/invoke/VarHandle" ∧ (parseMethodDescriptor yJ0_isLatin1_aae02.desc).map (fun d => d.parameters.length) = some 0 := by decide +kernel
theorem klJ0_492 : Cond.methodLink RJ0 492 yJ0_isLatin1_aae02 ∈ zTb := (zTb_mem (zm_4 (List.mem_of_getElem? (i := 150) (by decide +kernel))) rfl)
theorem kwJ0_492 : zCw RJ0 492 yJ0_isLatin1_aae02 cJ0_isLatin1_aae02 1 (some .boolean) 0 := ⟨⟨zc_J0_isLatin1_aae02, zi_J0_isLatin1_aae02, by decide, zd_J0_isLatin1_aae02, Or.inl klJ0_492⟩, zx_J0_isLatin1_aae02, zv_J0_isLatin1_aae02, rfl, klJ0_492⟩
theorem zc_J0_length_8abf5 : Cond.code yJ0_length_8abf5 cJ0_length_8abf5 1 (some .int) ∈ zTb := (zTb_mem (zm_3 (List.mem_of_getElem? (i := 101) (by decide +kernel))) rfl)
theorem zi_J0_length_8abf5 : Cond.initialized yJ0_length_8abf5.cls ∈ zTb := (zTb_mem (zm_1 (List.mem_of_getElem? (i := 16) (by decide +kernel))) rfl)
theorem zx_J0_length_8abf5 : Cond.instanceMethod yJ0_length_8abf5 ∈ zTb := (zTb_mem (zm_3 (List.mem_of_getElem? (i := 99) (by decide +kernel))) rfl)
theorem zv_J0_length_8abf5 : Cond.selects yJ0_length_8abf5.cls yJ0_length_8abf5 yJ0_length_8abf5 ∈ zTb := (zTb_mem (zm_3 (List.mem_of_getElem? (i := 100) (by decide +kernel))) rfl)
theorem zd_J0_length_8abf5 : yJ0_length_8abf5.cls ≠ "java/lang/invoke/MethodHandle" ∧ yJ0_length_8abf5.cls ≠ "java/lang/invoke/VarHandle" ∧ (parseMethodDescriptor yJ0_length_8abf5.desc).map (fun d => d.parameters.length) = some 0 := by decide +kernel
theorem klX3_159 : Cond.methodLink RX3 159 yJ0_length_8abf5 ∈ zTb := (zTb_mem (zm_4 (List.mem_of_getElem? (i := 145) (by decide +kernel))) rfl)
theorem kwX3_159 : zCw RX3 159 yJ0_length_8abf5 cJ0_length_8abf5 1 (some .int) 0 := ⟨⟨zc_J0_length_8abf5, zi_J0_length_8abf5, by decide, zd_J0_length_8abf5, Or.inl klX3_159⟩, zx_J0_length_8abf5, zv_J0_length_8abf5, rfl, klX3_159⟩
theorem zc_J0_charAt_5068e : Cond.code yJ0_charAt_5068e cJ0_charAt_5068e 2 (some .char) ∈ zTb := (zTb_mem (zm_4 (List.mem_of_getElem? (i := 149) (by decide +kernel))) rfl)
theorem zi_J0_charAt_5068e : Cond.initialized yJ0_charAt_5068e.cls ∈ zTb := (zTb_mem (zm_1 (List.mem_of_getElem? (i := 16) (by decide +kernel))) rfl)
theorem zx_J0_charAt_5068e : Cond.instanceMethod yJ0_charAt_5068e ∈ zTb := (zTb_mem (zm_4 (List.mem_of_getElem? (i := 147) (by decide +kernel))) rfl)
theorem zv_J0_charAt_5068e : Cond.selects yJ0_charAt_5068e.cls yJ0_charAt_5068e yJ0_charAt_5068e ∈ zTb := (zTb_mem (zm_4 (List.mem_of_getElem? (i := 148) (by decide +kernel))) rfl)
theorem zd_J0_charAt_5068e : yJ0_charAt_5068e.cls ≠ "java/lang/invoke/MethodHandle" ∧ yJ0_charAt_5068e.cls ≠ "java/lang/invoke/VarHandle" ∧ (parseMethodDescriptor yJ0_charAt_5068e.desc).map (fun d => d.parameters.length) = some 1 := by decide +kernel
theorem klX3_164 : Cond.methodLink RX3 164 yJ0_charAt_5068e ∈ zTb := (zTb_mem (zm_4 (List.mem_of_getElem? (i := 146) (by decide +kernel))) rfl)
theorem kwX3_164 : zCw RX3 164 yJ0_charAt_5068e cJ0_charAt_5068e 2 (some .char) 1 := ⟨⟨zc_J0_charAt_5068e, zi_J0_charAt_5068e, by decide, zd_J0_charAt_5068e, Or.inl klX3_164⟩, zx_J0_charAt_5068e, zv_J0_charAt_5068e, rfl, klX3_164⟩
theorem kmX0_48 : zCm RX0 48 Lib.Math.max.name Lib.Math.max.code 2 := ⟨(zTb_mem (zm_7 (List.mem_of_getElem? (i := 112) (by decide +kernel))) rfl), (zTb_mem (zm_3 (List.mem_of_getElem? (i := 46) (by decide +kernel))) rfl), (zTb_mem (zm_1 (List.mem_of_getElem? (i := 14) (by decide +kernel))) rfl), (zTb_mem (zm_3 (List.mem_of_getElem? (i := 47) (by decide +kernel))) rfl)⟩
theorem kmX1_86 : zCm RX1 86 Lib.Math.max.name Lib.Math.max.code 2 := ⟨(zTb_mem (zm_7 (List.mem_of_getElem? (i := 50) (by decide +kernel))) rfl), (zTb_mem (zm_3 (List.mem_of_getElem? (i := 46) (by decide +kernel))) rfl), (zTb_mem (zm_1 (List.mem_of_getElem? (i := 14) (by decide +kernel))) rfl), (zTb_mem (zm_3 (List.mem_of_getElem? (i := 47) (by decide +kernel))) rfl)⟩
theorem kmX1_98 : zCm RX1 98 Lib.Math.abs.name Lib.Math.abs.code 1 := ⟨(zTb_mem (zm_7 (List.mem_of_getElem? (i := 32) (by decide +kernel))) rfl), (zTb_mem (zm_4 (List.mem_of_getElem? (i := 72) (by decide +kernel))) rfl), (zTb_mem (zm_1 (List.mem_of_getElem? (i := 14) (by decide +kernel))) rfl), (zTb_mem (zm_4 (List.mem_of_getElem? (i := 73) (by decide +kernel))) rfl)⟩
theorem kmX3_32 : zCm RX3 32 Lib.Math.min.name Lib.Math.min.code 2 := ⟨(zTb_mem (zm_4 (List.mem_of_getElem? (i := 122) (by decide +kernel))) rfl), (zTb_mem (zm_3 (List.mem_of_getElem? (i := 64) (by decide +kernel))) rfl), (zTb_mem (zm_1 (List.mem_of_getElem? (i := 14) (by decide +kernel))) rfl), (zTb_mem (zm_3 (List.mem_of_getElem? (i := 65) (by decide +kernel))) rfl)⟩
theorem kmX5_83 : zCm RX5 83 Lib.Math.abs.name Lib.Math.abs.code 1 := ⟨(zTb_mem (zm_4 (List.mem_of_getElem? (i := 71) (by decide +kernel))) rfl), (zTb_mem (zm_4 (List.mem_of_getElem? (i := 72) (by decide +kernel))) rfl), (zTb_mem (zm_1 (List.mem_of_getElem? (i := 14) (by decide +kernel))) rfl), (zTb_mem (zm_4 (List.mem_of_getElem? (i := 73) (by decide +kernel))) rfl)⟩
theorem kmX5_121 : zCm RX5 121 Lib.Math.min.name Lib.Math.min.code 2 := ⟨(zTb_mem (zm_4 (List.mem_of_getElem? (i := 62) (by decide +kernel))) rfl), (zTb_mem (zm_3 (List.mem_of_getElem? (i := 64) (by decide +kernel))) rfl), (zTb_mem (zm_1 (List.mem_of_getElem? (i := 14) (by decide +kernel))) rfl), (zTb_mem (zm_3 (List.mem_of_getElem? (i := 65) (by decide +kernel))) rfl)⟩
theorem kmX8_328 : zCm RX8 328 Lib.Math.min.name Lib.Math.min.code 2 := ⟨(zTb_mem (zm_7 (List.mem_of_getElem? (i := 99) (by decide +kernel))) rfl), (zTb_mem (zm_3 (List.mem_of_getElem? (i := 64) (by decide +kernel))) rfl), (zTb_mem (zm_1 (List.mem_of_getElem? (i := 14) (by decide +kernel))) rfl), (zTb_mem (zm_3 (List.mem_of_getElem? (i := 65) (by decide +kernel))) rfl)⟩
theorem kaX5_52 : zCa RX5 52 := ⟨(zTb_mem (zm_2 (List.mem_of_getElem? (i := 171) (by decide +kernel))) rfl), (zTb_mem (zm_2 (List.mem_of_getElem? (i := 173) (by decide +kernel))) rfl), (zTb_mem (zm_2 (List.mem_of_getElem? (i := 172) (by decide +kernel))) rfl), (zTb_mem (zm_1 (List.mem_of_getElem? (i := 20) (by decide +kernel))) rfl)⟩
theorem kaX7_64 : zCa RX7 64 := ⟨(zTb_mem (zm_4 (List.mem_of_getElem? (i := 238) (by decide +kernel))) rfl), (zTb_mem (zm_2 (List.mem_of_getElem? (i := 173) (by decide +kernel))) rfl), (zTb_mem (zm_2 (List.mem_of_getElem? (i := 172) (by decide +kernel))) rfl), (zTb_mem (zm_1 (List.mem_of_getElem? (i := 20) (by decide +kernel))) rfl)⟩
theorem kcJ6_264 : Cond.constant RJ6 264 (65536 : Int32) ∈ zTb := (zTb_mem (zm_6 (List.mem_of_getElem? (i := 20) (by decide +kernel))) rfl)
theorem kcJ6_265 : Cond.constant RJ6 265 (1431655765 : Int32) ∈ zTb := (zTb_mem (zm_4 (List.mem_of_getElem? (i := 104) (by decide +kernel))) rfl)
theorem kcJ6_266 : Cond.constant RJ6 266 (858993459 : Int32) ∈ zTb := (zTb_mem (zm_4 (List.mem_of_getElem? (i := 105) (by decide +kernel))) rfl)
theorem kcJ6_267 : Cond.constant RJ6 267 (252645135 : Int32) ∈ zTb := (zTb_mem (zm_4 (List.mem_of_getElem? (i := 106) (by decide +kernel))) rfl)
theorem kcX3_141 : Cond.constant RX3 141 (100000 : Int32) ∈ zTb := (zTb_mem (zm_4 (List.mem_of_getElem? (i := 193) (by decide +kernel))) rfl)
theorem kcX4_79 : Cond.constant RX4 79 (1103515245 : Int32) ∈ zTb := (zTb_mem (zm_6 (List.mem_of_getElem? (i := 149) (by decide +kernel))) rfl)
theorem kcX9_139 : Cond.constant RX9 139 (100000 : Int32) ∈ zTb := (zTb_mem (zm_8 (List.mem_of_getElem? (i := 144) (by decide +kernel))) rfl)
theorem kcX9_311 : Cond.constant RX9 311 (1103515245 : Int32) ∈ zTb := (zTb_mem (zm_9 (List.mem_of_getElem? (i := 142) (by decide +kernel))) rfl)
