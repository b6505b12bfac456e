
theorem zrefEq {a b : Nat} : ((Value.ref a : Value) = .ref b) = @Eq Nat a b := Value.ref.injEq a b
theorem zltEq {a b : Nat} : (∀ q, (Value.ref a : Value) = .ref q → q < b ∨ 1000000 ≤ q) = ((a : Nat) < b ∨ (1000000 : Nat) ≤ a) := propext ⟨fun h => h a rfl, fun h q e => by cases e; exact h⟩
theorem zoi : Cond.instanceMethod objectInit ∈ zTb := (zTb_mem (zm_1 (List.mem_of_getElem? (i := 37) (by decide +kernel))) rfl)
theorem zoc : Cond.code objectInit ⟨#[0xb1]⟩ 1 none ∈ zTb := (zTb_mem (zm_1 (List.mem_of_getElem? (i := 38) (by decide +kernel))) rfl)
theorem zai : Cond.arrayClass .int ∈ zTb := (zTb_mem (zm_1 (List.mem_of_getElem? (i := 138) (by decide +kernel))) rfl)
theorem zaz : Cond.arrayClass .boolean ∈ zTb := (zTb_mem (zm_8 (List.mem_of_getElem? (i := 86) (by decide +kernel))) rfl)
theorem zovS : Cond.arrayOver (.object RX5) ∈ zNs := (List.mem_filter.mpr ⟨zm_1 (List.mem_of_getElem? (i := 223) (by decide +kernel)), rfl⟩)
theorem zov0 : Cond.arrayOver (.array .int) ∈ zNs := (List.mem_filter.mpr ⟨zm_7 (List.mem_of_getElem? (i := 184) (by decide +kernel)), rfl⟩)
theorem zov1 : Cond.arrayOver (.array .boolean) ∈ zNs := (List.mem_filter.mpr ⟨zm_7 (List.mem_of_getElem? (i := 186) (by decide +kernel)), rfl⟩)
theorem koX0_3 : Cond.methodLink RX0 3 objectInit ∈ zTb := (zTb_mem (zm_2 (List.mem_of_getElem? (i := 14) (by decide +kernel))) rfl)
theorem koX1_5 : Cond.methodLink RX1 5 objectInit ∈ zTb := (zTb_mem (zm_6 (List.mem_of_getElem? (i := 217) (by decide +kernel))) rfl)
theorem koX2_3 : Cond.methodLink RX2 3 objectInit ∈ zTb := (zTb_mem (zm_1 (List.mem_of_getElem? (i := 229) (by decide +kernel))) rfl)
theorem koX3_3 : Cond.methodLink RX3 3 objectInit ∈ zTb := (zTb_mem (zm_1 (List.mem_of_getElem? (i := 144) (by decide +kernel))) rfl)
theorem koX4_3 : Cond.methodLink RX4 3 objectInit ∈ zTb := (zTb_mem (zm_2 (List.mem_of_getElem? (i := 33) (by decide +kernel))) rfl)
theorem koX5_3 : Cond.methodLink RX5 3 objectInit ∈ zTb := (zTb_mem (zm_1 (List.mem_of_getElem? (i := 170) (by decide +kernel))) rfl)
theorem koX6_3 : Cond.methodLink RX6 3 objectInit ∈ zTb := (zTb_mem (zm_2 (List.mem_of_getElem? (i := 75) (by decide +kernel))) rfl)
theorem koX7_3 : Cond.methodLink RX7 3 objectInit ∈ zTb := (zTb_mem (zm_1 (List.mem_of_getElem? (i := 44) (by decide +kernel))) rfl)
theorem koX8_1 : Cond.methodLink RX8 1 objectInit ∈ zTb := (zTb_mem (zm_1 (List.mem_of_getElem? (i := 36) (by decide +kernel))) rfl)
theorem koX9_1 : Cond.methodLink RX9 1 objectInit ∈ zTb := (zTb_mem (zm_7 (List.mem_of_getElem? (i := 182) (by decide +kernel))) rfl)
theorem flX0_9 : Cond.fieldLink RX0 9 RX0 (TX0 1).2.1 (TX0 1).2.2.1 ∈ zTb := (zTb_mem (zm_2 (List.mem_of_getElem? (i := 16) (by decide +kernel))) rfl)
theorem flX0_15 : Cond.fieldLink RX0 15 RX0 (TX0 2).2.1 (TX0 2).2.2.1 ∈ zTb := (zTb_mem (zm_2 (List.mem_of_getElem? (i := 17) (by decide +kernel))) rfl)
theorem flX0_22 : Cond.fieldLink RX0 22 RX0 (TX0 0).2.1 (TX0 0).2.2.1 ∈ zTb := (zTb_mem (zm_2 (List.mem_of_getElem? (i := 15) (by decide +kernel))) rfl)
theorem flX1_11 : Cond.fieldLink RX1 11 RX1 (TX1 1).2.1 (TX1 1).2.2.1 ∈ zTb := (zTb_mem (zm_6 (List.mem_of_getElem? (i := 219) (by decide +kernel))) rfl)
theorem flX1_15 : Cond.fieldLink RX1 15 RX1 (TX1 2).2.1 (TX1 2).2.2.1 ∈ zTb := (zTb_mem (zm_6 (List.mem_of_getElem? (i := 220) (by decide +kernel))) rfl)
theorem flX1_18 : Cond.fieldLink RX1 18 RX1 (TX1 3).2.1 (TX1 3).2.2.1 ∈ zTb := (zTb_mem (zm_6 (List.mem_of_getElem? (i := 221) (by decide +kernel))) rfl)
theorem flX1_21 : Cond.fieldLink RX1 21 RX1 (TX1 4).2.1 (TX1 4).2.2.1 ∈ zTb := (zTb_mem (zm_6 (List.mem_of_getElem? (i := 222) (by decide +kernel))) rfl)
theorem flX1_24 : Cond.fieldLink RX1 24 RX1 (TX1 5).2.1 (TX1 5).2.2.1 ∈ zTb := (zTb_mem (zm_6 (List.mem_of_getElem? (i := 223) (by decide +kernel))) rfl)
theorem flX1_27 : Cond.fieldLink RX1 27 RX1 (TX1 6).2.1 (TX1 6).2.2.1 ∈ zTb := (zTb_mem (zm_6 (List.mem_of_getElem? (i := 224) (by decide +kernel))) rfl)
theorem flX1_43 : Cond.fieldLink RX1 43 RX1 (TX1 0).2.1 (TX1 0).2.2.1 ∈ zTb := (zTb_mem (zm_6 (List.mem_of_getElem? (i := 218) (by decide +kernel))) rfl)
theorem flX2_11 : Cond.fieldLink RX2 11 RX2 (TX2 1).2.1 (TX2 1).2.2.1 ∈ zTb := (zTb_mem (zm_1 (List.mem_of_getElem? (i := 231) (by decide +kernel))) rfl)
theorem flX2_15 : Cond.fieldLink RX2 15 RX2 (TX2 2).2.1 (TX2 2).2.2.1 ∈ zTb := (zTb_mem (zm_1 (List.mem_of_getElem? (i := 232) (by decide +kernel))) rfl)
theorem flX2_18 : Cond.fieldLink RX2 18 RX2 (TX2 3).2.1 (TX2 3).2.2.1 ∈ zTb := (zTb_mem (zm_1 (List.mem_of_getElem? (i := 233) (by decide +kernel))) rfl)
theorem flX2_21 : Cond.fieldLink RX2 21 RX2 (TX2 4).2.1 (TX2 4).2.2.1 ∈ zTb := (zTb_mem (zm_1 (List.mem_of_getElem? (i := 234) (by decide +kernel))) rfl)
theorem flX2_28 : Cond.fieldLink RX2 28 RX2 (TX2 0).2.1 (TX2 0).2.2.1 ∈ zTb := (zTb_mem (zm_1 (List.mem_of_getElem? (i := 230) (by decide +kernel))) rfl)
theorem flX3_24 : Cond.fieldLink RX3 24 RX3 (TX3 0).2.1 (TX3 0).2.2.1 ∈ zTb := (zTb_mem (zm_1 (List.mem_of_getElem? (i := 145) (by decide +kernel))) rfl)
theorem flX3_28 : Cond.fieldLink RX3 28 RX3 (TX3 1).2.1 (TX3 1).2.2.1 ∈ zTb := (zTb_mem (zm_1 (List.mem_of_getElem? (i := 146) (by decide +kernel))) rfl)
theorem flX4_39 : Cond.fieldLink RX4 39 RX4 (TX4 0).2.1 (TX4 0).2.2.1 ∈ zTb := (zTb_mem (zm_2 (List.mem_of_getElem? (i := 34) (by decide +kernel))) rfl)
theorem flX4_43 : Cond.fieldLink RX4 43 RX4 (TX4 1).2.1 (TX4 1).2.2.1 ∈ zTb := (zTb_mem (zm_2 (List.mem_of_getElem? (i := 35) (by decide +kernel))) rfl)
theorem flX5_27 : Cond.fieldLink RX5 27 RX5 (TX5 6).2.1 (TX5 6).2.2.1 ∈ zTb := (zTb_mem (zm_1 (List.mem_of_getElem? (i := 189) (by decide +kernel))) rfl)
theorem flX5_31 : Cond.fieldLink RX5 31 RX5 (TX5 7).2.1 (TX5 7).2.2.1 ∈ zTb := (zTb_mem (zm_1 (List.mem_of_getElem? (i := 190) (by decide +kernel))) rfl)
theorem flX5_34 : Cond.fieldLink RX5 34 RX5 (TX5 8).2.1 (TX5 8).2.2.1 ∈ zTb := (zTb_mem (zm_1 (List.mem_of_getElem? (i := 192) (by decide +kernel))) rfl)
theorem flX5_40 : Cond.fieldLink RX5 40 RX5 (TX5 10).2.1 (TX5 10).2.2.1 ∈ zTb := (zTb_mem (zm_1 (List.mem_of_getElem? (i := 198) (by decide +kernel))) rfl)
theorem flX5_43 : Cond.fieldLink RX5 43 RX5 (TX5 0).2.1 (TX5 0).2.2.1 ∈ zTb := (zTb_mem (zm_1 (List.mem_of_getElem? (i := 171) (by decide +kernel))) rfl)
theorem flX6_21 : Cond.fieldLink RX6 21 RX6 (TX6 0).2.1 (TX6 0).2.2.1 ∈ zTb := (zTb_mem (zm_2 (List.mem_of_getElem? (i := 78) (by decide +kernel))) rfl)
theorem flX6_30 : Cond.fieldLink RX6 30 RX6 (TX6 1).2.1 (TX6 1).2.2.1 ∈ zTb := (zTb_mem (zm_2 (List.mem_of_getElem? (i := 79) (by decide +kernel))) rfl)
theorem flX6_34 : Cond.fieldLink RX6 34 RX6 (TX6 2).2.1 (TX6 2).2.2.1 ∈ zTb := (zTb_mem (zm_2 (List.mem_of_getElem? (i := 80) (by decide +kernel))) rfl)
theorem flX7_30 : Cond.fieldLink RX7 30 RX7 (TX7 6).2.1 (TX7 6).2.2.1 ∈ zTb := (zTb_mem (zm_1 (List.mem_of_getElem? (i := 74) (by decide +kernel))) rfl)
theorem flX7_34 : Cond.fieldLink RX7 34 RX7 (TX7 7).2.1 (TX7 7).2.2.1 ∈ zTb := (zTb_mem (zm_1 (List.mem_of_getElem? (i := 76) (by decide +kernel))) rfl)
theorem flX7_37 : Cond.fieldLink RX7 37 RX7 (TX7 8).2.1 (TX7 8).2.2.1 ∈ zTb := (zTb_mem (zm_1 (List.mem_of_getElem? (i := 79) (by decide +kernel))) rfl)
theorem flX7_40 : Cond.fieldLink RX7 40 RX7 (TX7 9).2.1 (TX7 9).2.2.1 ∈ zTb := (zTb_mem (zm_1 (List.mem_of_getElem? (i := 83) (by decide +kernel))) rfl)
theorem flX7_43 : Cond.fieldLink RX7 43 RX7 (TX7 10).2.1 (TX7 10).2.2.1 ∈ zTb := (zTb_mem (zm_1 (List.mem_of_getElem? (i := 86) (by decide +kernel))) rfl)
theorem flX7_46 : Cond.fieldLink RX7 46 RX7 (TX7 11).2.1 (TX7 11).2.2.1 ∈ zTb := (zTb_mem (zm_1 (List.mem_of_getElem? (i := 88) (by decide +kernel))) rfl)
theorem flX7_49 : Cond.fieldLink RX7 49 RX7 (TX7 12).2.1 (TX7 12).2.2.1 ∈ zTb := (zTb_mem (zm_1 (List.mem_of_getElem? (i := 94) (by decide +kernel))) rfl)
theorem flX7_52 : Cond.fieldLink RX7 52 RX7 (TX7 13).2.1 (TX7 13).2.2.1 ∈ zTb := (zTb_mem (zm_1 (List.mem_of_getElem? (i := 99) (by decide +kernel))) rfl)
theorem flX7_55 : Cond.fieldLink RX7 55 RX7 (TX7 14).2.1 (TX7 14).2.2.1 ∈ zTb := (zTb_mem (zm_1 (List.mem_of_getElem? (i := 103) (by decide +kernel))) rfl)
theorem flX8_9 : Cond.fieldLink RX8 9 RX8 (TX8 0).2.1 (TX8 0).2.2.1 ∈ zTb := (zTb_mem (zm_2 (List.mem_of_getElem? (i := 97) (by decide +kernel))) rfl)
theorem flX8_23 : Cond.fieldLink RX8 23 RX8 (TX8 3).2.1 (TX8 3).2.2.1 ∈ zTb := (zTb_mem (zm_2 (List.mem_of_getElem? (i := 100) (by decide +kernel))) rfl)
theorem flX8_27 : Cond.fieldLink RX8 27 RX8 (TX8 4).2.1 (TX8 4).2.2.1 ∈ zTb := (zTb_mem (zm_2 (List.mem_of_getElem? (i := 101) (by decide +kernel))) rfl)
theorem flX8_35 : Cond.fieldLink RX8 35 RX8 (TX8 5).2.1 (TX8 5).2.2.1 ∈ zTb := (zTb_mem (zm_2 (List.mem_of_getElem? (i := 102) (by decide +kernel))) rfl)
theorem flX8_44 : Cond.fieldLink RX8 44 RX8 (TX8 6).2.1 (TX8 6).2.2.1 ∈ zTb := (zTb_mem (zm_2 (List.mem_of_getElem? (i := 103) (by decide +kernel))) rfl)
theorem flX8_48 : Cond.fieldLink RX8 48 RX8 (TX8 7).2.1 (TX8 7).2.2.1 ∈ zTb := (zTb_mem (zm_2 (List.mem_of_getElem? (i := 104) (by decide +kernel))) rfl)
theorem flX8_51 : Cond.fieldLink RX8 51 RX8 (TX8 8).2.1 (TX8 8).2.2.1 ∈ zTb := (zTb_mem (zm_2 (List.mem_of_getElem? (i := 105) (by decide +kernel))) rfl)
theorem flX8_61 : Cond.fieldLink RX8 61 RX8 (TX8 10).2.1 (TX8 10).2.2.1 ∈ zTb := (zTb_mem (zm_2 (List.mem_of_getElem? (i := 107) (by decide +kernel))) rfl)
theorem flX8_68 : Cond.fieldLink RX8 68 RX8 (TX8 11).2.1 (TX8 11).2.2.1 ∈ zTb := (zTb_mem (zm_2 (List.mem_of_getElem? (i := 108) (by decide +kernel))) rfl)
theorem flX8_77 : Cond.fieldLink RX8 77 RX8 (TX8 12).2.1 (TX8 12).2.2.1 ∈ zTb := (zTb_mem (zm_2 (List.mem_of_getElem? (i := 109) (by decide +kernel))) rfl)
theorem flX8_84 : Cond.fieldLink RX8 84 RX8 (TX8 13).2.1 (TX8 13).2.2.1 ∈ zTb := (zTb_mem (zm_2 (List.mem_of_getElem? (i := 110) (by decide +kernel))) rfl)
theorem flX9_13 : Cond.fieldLink RX9 13 RX9 (TX9 8).2.1 (TX9 8).2.2.1 ∈ zTb := (zTb_mem (zm_7 (List.mem_of_getElem? (i := 195) (by decide +kernel))) rfl)
theorem flX9_17 : Cond.fieldLink RX9 17 RX9 (TX9 9).2.1 (TX9 9).2.2.1 ∈ zTb := (zTb_mem (zm_7 (List.mem_of_getElem? (i := 196) (by decide +kernel))) rfl)
theorem flX9_20 : Cond.fieldLink RX9 20 RX9 (TX9 10).2.1 (TX9 10).2.2.1 ∈ zTb := (zTb_mem (zm_7 (List.mem_of_getElem? (i := 197) (by decide +kernel))) rfl)
theorem flX9_23 : Cond.fieldLink RX9 23 RX9 (TX9 11).2.1 (TX9 11).2.2.1 ∈ zTb := (zTb_mem (zm_7 (List.mem_of_getElem? (i := 198) (by decide +kernel))) rfl)
theorem flX9_28 : Cond.fieldLink RX9 28 RX9 (TX9 12).2.1 (TX9 12).2.2.1 ∈ zTb := (zTb_mem (zm_7 (List.mem_of_getElem? (i := 199) (by decide +kernel))) rfl)
theorem flX9_31 : Cond.fieldLink RX9 31 RX9 (TX9 13).2.1 (TX9 13).2.2.1 ∈ zTb := (zTb_mem (zm_7 (List.mem_of_getElem? (i := 200) (by decide +kernel))) rfl)
theorem flX9_34 : Cond.fieldLink RX9 34 RX9 (TX9 14).2.1 (TX9 14).2.2.1 ∈ zTb := (zTb_mem (zm_7 (List.mem_of_getElem? (i := 201) (by decide +kernel))) rfl)
theorem flX9_37 : Cond.fieldLink RX9 37 RX9 (TX9 15).2.1 (TX9 15).2.2.1 ∈ zTb := (zTb_mem (zm_7 (List.mem_of_getElem? (i := 202) (by decide +kernel))) rfl)
theorem flX9_40 : Cond.fieldLink RX9 40 RX9 (TX9 16).2.1 (TX9 16).2.2.1 ∈ zTb := (zTb_mem (zm_7 (List.mem_of_getElem? (i := 203) (by decide +kernel))) rfl)
theorem flX9_43 : Cond.fieldLink RX9 43 RX9 (TX9 17).2.1 (TX9 17).2.2.1 ∈ zTb := (zTb_mem (zm_7 (List.mem_of_getElem? (i := 204) (by decide +kernel))) rfl)
theorem flX9_46 : Cond.fieldLink RX9 46 RX9 (TX9 18).2.1 (TX9 18).2.2.1 ∈ zTb := (zTb_mem (zm_7 (List.mem_of_getElem? (i := 205) (by decide +kernel))) rfl)
theorem flX9_49 : Cond.fieldLink RX9 49 RX9 (TX9 19).2.1 (TX9 19).2.2.1 ∈ zTb := (zTb_mem (zm_7 (List.mem_of_getElem? (i := 206) (by decide +kernel))) rfl)
theorem flX9_52 : Cond.fieldLink RX9 52 RX9 (TX9 23).2.1 (TX9 23).2.2.1 ∈ zTb := (zTb_mem (zm_7 (List.mem_of_getElem? (i := 210) (by decide +kernel))) rfl)
theorem flX9_55 : Cond.fieldLink RX9 55 RX9 (TX9 24).2.1 (TX9 24).2.2.1 ∈ zTb := (zTb_mem (zm_7 (List.mem_of_getElem? (i := 211) (by decide +kernel))) rfl)
theorem flX9_58 : Cond.fieldLink RX9 58 RX9 (TX9 25).2.1 (TX9 25).2.2.1 ∈ zTb := (zTb_mem (zm_7 (List.mem_of_getElem? (i := 212) (by decide +kernel))) rfl)
theorem flX9_61 : Cond.fieldLink RX9 61 RX9 (TX9 26).2.1 (TX9 26).2.2.1 ∈ zTb := (zTb_mem (zm_7 (List.mem_of_getElem? (i := 213) (by decide +kernel))) rfl)
theorem flX9_64 : Cond.fieldLink RX9 64 RX9 (TX9 27).2.1 (TX9 27).2.2.1 ∈ zTb := (zTb_mem (zm_7 (List.mem_of_getElem? (i := 214) (by decide +kernel))) rfl)
theorem flX9_67 : Cond.fieldLink RX9 67 RX9 (TX9 28).2.1 (TX9 28).2.2.1 ∈ zTb := (zTb_mem (zm_7 (List.mem_of_getElem? (i := 215) (by decide +kernel))) rfl)
theorem flX9_75 : Cond.fieldLink RX9 75 RX9 (TX9 32).2.1 (TX9 32).2.2.1 ∈ zTb := (zTb_mem (zm_7 (List.mem_of_getElem? (i := 219) (by decide +kernel))) rfl)
theorem flX9_78 : Cond.fieldLink RX9 78 RX9 (TX9 33).2.1 (TX9 33).2.2.1 ∈ zTb := (zTb_mem (zm_7 (List.mem_of_getElem? (i := 220) (by decide +kernel))) rfl)
theorem flX9_82 : Cond.fieldLink RX9 82 RX9 (TX9 36).2.1 (TX9 36).2.2.1 ∈ zTb := (zTb_mem (zm_7 (List.mem_of_getElem? (i := 223) (by decide +kernel))) rfl)
theorem flX9_85 : Cond.fieldLink RX9 85 RX9 (TX9 37).2.1 (TX9 37).2.2.1 ∈ zTb := (zTb_mem (zm_7 (List.mem_of_getElem? (i := 224) (by decide +kernel))) rfl)
theorem flX9_88 : Cond.fieldLink RX9 88 RX9 (TX9 38).2.1 (TX9 38).2.2.1 ∈ zTb := (zTb_mem (zm_7 (List.mem_of_getElem? (i := 225) (by decide +kernel))) rfl)
theorem flX9_91 : Cond.fieldLink RX9 91 RX9 (TX9 39).2.1 (TX9 39).2.2.1 ∈ zTb := (zTb_mem (zm_7 (List.mem_of_getElem? (i := 226) (by decide +kernel))) rfl)
theorem flX9_94 : Cond.fieldLink RX9 94 RX9 (TX9 41).2.1 (TX9 41).2.2.1 ∈ zTb := (zTb_mem (zm_7 (List.mem_of_getElem? (i := 228) (by decide +kernel))) rfl)
theorem flX9_97 : Cond.fieldLink RX9 97 RX9 (TX9 42).2.1 (TX9 42).2.2.1 ∈ zTb := (zTb_mem (zm_7 (List.mem_of_getElem? (i := 229) (by decide +kernel))) rfl)
theorem flX9_100 : Cond.fieldLink RX9 100 RX9 (TX9 43).2.1 (TX9 43).2.2.1 ∈ zTb := (zTb_mem (zm_7 (List.mem_of_getElem? (i := 230) (by decide +kernel))) rfl)
theorem flX9_103 : Cond.fieldLink RX9 103 RX9 (TX9 44).2.1 (TX9 44).2.2.1 ∈ zTb := (zTb_mem (zm_7 (List.mem_of_getElem? (i := 231) (by decide +kernel))) rfl)
theorem zin_0 : Cond.instantiable RX0 4 ∈ zTb := (zTb_mem (zm_2 (List.mem_of_getElem? (i := 10) (by decide +kernel))) rfl)
theorem zii_0 : Cond.initialized RX0 ∈ zTb := (zTb_mem (zm_1 (List.mem_of_getElem? (i := 6) (by decide +kernel))) rfl)
theorem zdf_0 : ∀ j, j < 4 → defaultValue (zTy 0 j) = if zInt 0 j = true then .int 0 else .null := by decide +kernel
theorem zin_2 : Cond.instantiable RX2 6 ∈ zTb := (zTb_mem (zm_1 (List.mem_of_getElem? (i := 225) (by decide +kernel))) rfl)
theorem zii_2 : Cond.initialized RX2 ∈ zTb := (zTb_mem (zm_1 (List.mem_of_getElem? (i := 5) (by decide +kernel))) rfl)
theorem zdf_2 : ∀ j, j < 6 → defaultValue (zTy 2 j) = if zInt 2 j = true then .int 0 else .null := by decide +kernel
theorem zin_3 : Cond.instantiable RX3 6 ∈ zTb := (zTb_mem (zm_1 (List.mem_of_getElem? (i := 140) (by decide +kernel))) rfl)
theorem zii_3 : Cond.initialized RX3 ∈ zTb := (zTb_mem (zm_1 (List.mem_of_getElem? (i := 3) (by decide +kernel))) rfl)
theorem zdf_3 : ∀ j, j < 6 → defaultValue (zTy 3 j) = if zInt 3 j = true then .int 0 else .null := by decide +kernel
theorem zin_4 : Cond.instantiable RX4 11 ∈ zTb := (zTb_mem (zm_2 (List.mem_of_getElem? (i := 29) (by decide +kernel))) rfl)
theorem zii_4 : Cond.initialized RX4 ∈ zTb := (zTb_mem (zm_1 (List.mem_of_getElem? (i := 7) (by decide +kernel))) rfl)
theorem zdf_4 : ∀ j, j < 11 → defaultValue (zTy 4 j) = if zInt 4 j = true then .int 0 else .null := by decide +kernel
theorem zin_5 : Cond.instantiable RX5 11 ∈ zTb := (zTb_mem (zm_1 (List.mem_of_getElem? (i := 166) (by decide +kernel))) rfl)
theorem zii_5 : Cond.initialized RX5 ∈ zTb := (zTb_mem (zm_1 (List.mem_of_getElem? (i := 4) (by decide +kernel))) rfl)
theorem zdf_5 : ∀ j, j < 11 → defaultValue (zTy 5 j) = if zInt 5 j = true then .int 0 else .null := by decide +kernel
theorem zin_6 : Cond.instantiable RX6 6 ∈ zTb := (zTb_mem (zm_2 (List.mem_of_getElem? (i := 71) (by decide +kernel))) rfl)
theorem zii_6 : Cond.initialized RX6 ∈ zTb := (zTb_mem (zm_1 (List.mem_of_getElem? (i := 8) (by decide +kernel))) rfl)
theorem zdf_6 : ∀ j, j < 6 → defaultValue (zTy 6 j) = if zInt 6 j = true then .int 0 else .null := by decide +kernel
theorem zin_7 : Cond.instantiable RX7 15 ∈ zTb := (zTb_mem (zm_1 (List.mem_of_getElem? (i := 40) (by decide +kernel))) rfl)
theorem zii_7 : Cond.initialized RX7 ∈ zTb := (zTb_mem (zm_1 (List.mem_of_getElem? (i := 2) (by decide +kernel))) rfl)
theorem zdf_7 : ∀ j, j < 15 → defaultValue (zTy 7 j) = if zInt 7 j = true then .int 0 else .null := by decide +kernel
theorem knX6_25 : Cond.classLink RX6 25 RX5 ∈ zTb := (zTb_mem (zm_2 (List.mem_of_getElem? (i := 76) (by decide +kernel))) rfl)
theorem knX8_20 : Cond.classLink RX8 20 RX7 ∈ zTb := (zTb_mem (zm_1 (List.mem_of_getElem? (i := 39) (by decide +kernel))) rfl)
theorem knX8_30 : Cond.classLink RX8 30 RX3 ∈ zTb := (zTb_mem (zm_1 (List.mem_of_getElem? (i := 139) (by decide +kernel))) rfl)
theorem knX8_39 : Cond.classLink RX8 39 RX5 ∈ zTb := (zTb_mem (zm_1 (List.mem_of_getElem? (i := 165) (by decide +kernel))) rfl)
theorem knX8_58 : Cond.classLink RX8 58 RX2 ∈ zTb := (zTb_mem (zm_1 (List.mem_of_getElem? (i := 224) (by decide +kernel))) rfl)
theorem knX8_65 : Cond.classLink RX8 65 RX0 ∈ zTb := (zTb_mem (zm_2 (List.mem_of_getElem? (i := 9) (by decide +kernel))) rfl)
theorem knX8_72 : Cond.classLink RX8 72 RX4 ∈ zTb := (zTb_mem (zm_2 (List.mem_of_getElem? (i := 28) (by decide +kernel))) rfl)
theorem knX8_81 : Cond.classLink RX8 81 RX6 ∈ zTb := (zTb_mem (zm_2 (List.mem_of_getElem? (i := 70) (by decide +kernel))) rfl)
theorem kqX8_39 : Cond.classLink RX8 39 RX5 ∈ zTb := (zTb_mem (zm_1 (List.mem_of_getElem? (i := 165) (by decide +kernel))) rfl)
theorem kmX9_26 : Cond.classLink RX9 26 ("[" ++ (FieldType.array .int).toString) ∈ zTb := (zTb_mem (zm_7 (List.mem_of_getElem? (i := 183) (by decide +kernel))) rfl)
theorem kmX9_73 : Cond.classLink RX9 73 ("[" ++ (FieldType.array .boolean).toString) ∈ zTb := (zTb_mem (zm_7 (List.mem_of_getElem? (i := 185) (by decide +kernel))) rfl)
theorem zin0 : Cond.instanceMethod yX0_init ∈ zTb := (zTb_mem (zm_2 (List.mem_of_getElem? (i := 12) (by decide +kernel))) rfl)
theorem zic0 : Cond.code yX0_init cX0_init 2 none ∈ zTb := (zTb_mem (zm_2 (List.mem_of_getElem? (i := 13) (by decide +kernel))) rfl)
theorem zid0 : yX0_init.cls ≠ "java/lang/invoke/MethodHandle" ∧ yX0_init.cls ≠ "java/lang/invoke/VarHandle" ∧ (parseMethodDescriptor yX0_init.desc).map (fun d => d.parameters.length) = some 1 := by decide +kernel
theorem zin2 : Cond.instanceMethod yX2_init ∈ zTb := (zTb_mem (zm_1 (List.mem_of_getElem? (i := 227) (by decide +kernel))) rfl)
theorem zic2 : Cond.code yX2_init cX2_init 2 none ∈ zTb := (zTb_mem (zm_1 (List.mem_of_getElem? (i := 228) (by decide +kernel))) rfl)
theorem zid2 : yX2_init.cls ≠ "java/lang/invoke/MethodHandle" ∧ yX2_init.cls ≠ "java/lang/invoke/VarHandle" ∧ (parseMethodDescriptor yX2_init.desc).map (fun d => d.parameters.length) = some 1 := by decide +kernel
theorem zin3 : Cond.instanceMethod yX3_init ∈ zTb := (zTb_mem (zm_1 (List.mem_of_getElem? (i := 142) (by decide +kernel))) rfl)
theorem zic3 : Cond.code yX3_init cX3_init 3 none ∈ zTb := (zTb_mem (zm_1 (List.mem_of_getElem? (i := 143) (by decide +kernel))) rfl)
theorem zid3 : yX3_init.cls ≠ "java/lang/invoke/MethodHandle" ∧ yX3_init.cls ≠ "java/lang/invoke/VarHandle" ∧ (parseMethodDescriptor yX3_init.desc).map (fun d => d.parameters.length) = some 2 := by decide +kernel
theorem zin4 : Cond.instanceMethod yX4_init ∈ zTb := (zTb_mem (zm_2 (List.mem_of_getElem? (i := 31) (by decide +kernel))) rfl)
theorem zic4 : Cond.code yX4_init cX4_init 3 none ∈ zTb := (zTb_mem (zm_2 (List.mem_of_getElem? (i := 32) (by decide +kernel))) rfl)
theorem zid4 : yX4_init.cls ≠ "java/lang/invoke/MethodHandle" ∧ yX4_init.cls ≠ "java/lang/invoke/VarHandle" ∧ (parseMethodDescriptor yX4_init.desc).map (fun d => d.parameters.length) = some 2 := by decide +kernel
theorem zin5 : Cond.instanceMethod yX5_init ∈ zTb := (zTb_mem (zm_1 (List.mem_of_getElem? (i := 168) (by decide +kernel))) rfl)
theorem zic5 : Cond.code yX5_init cX5_init 2 none ∈ zTb := (zTb_mem (zm_1 (List.mem_of_getElem? (i := 169) (by decide +kernel))) rfl)
theorem zid5 : yX5_init.cls ≠ "java/lang/invoke/MethodHandle" ∧ yX5_init.cls ≠ "java/lang/invoke/VarHandle" ∧ (parseMethodDescriptor yX5_init.desc).map (fun d => d.parameters.length) = some 1 := by decide +kernel
theorem zin6 : Cond.instanceMethod yX6_init ∈ zTb := (zTb_mem (zm_2 (List.mem_of_getElem? (i := 73) (by decide +kernel))) rfl)
theorem zic6 : Cond.code yX6_init cX6_init 2 none ∈ zTb := (zTb_mem (zm_2 (List.mem_of_getElem? (i := 74) (by decide +kernel))) rfl)
theorem zid6 : yX6_init.cls ≠ "java/lang/invoke/MethodHandle" ∧ yX6_init.cls ≠ "java/lang/invoke/VarHandle" ∧ (parseMethodDescriptor yX6_init.desc).map (fun d => d.parameters.length) = some 1 := by decide +kernel
theorem zin7 : Cond.instanceMethod yX7_init ∈ zTb := (zTb_mem (zm_1 (List.mem_of_getElem? (i := 42) (by decide +kernel))) rfl)
theorem zic7 : Cond.code yX7_init cX7_init 1 none ∈ zTb := (zTb_mem (zm_1 (List.mem_of_getElem? (i := 43) (by decide +kernel))) rfl)
theorem zid7 : yX7_init.cls ≠ "java/lang/invoke/MethodHandle" ∧ yX7_init.cls ≠ "java/lang/invoke/VarHandle" ∧ (parseMethodDescriptor yX7_init.desc).map (fun d => d.parameters.length) = some 0 := by decide +kernel
theorem kiX6_27 : zCk RX6 27 yX5_init cX5_init 2 none 1 := ⟨zic5, zii_5, by decide, zid5, (Or.inr ⟨"TwoHandles", (List.mem_filter.mpr ⟨zm_2 (List.mem_of_getElem? (i := 77) (by decide +kernel)), rfl⟩)⟩)⟩
theorem kiX8_22 : zCk RX8 22 yX7_init cX7_init 1 none 0 := ⟨zic7, zii_7, by decide, zid7, (Or.inr ⟨"TwoHandles", (List.mem_filter.mpr ⟨zm_1 (List.mem_of_getElem? (i := 41) (by decide +kernel)), rfl⟩)⟩)⟩
theorem kiX8_32 : zCk RX8 32 yX3_init cX3_init 3 none 2 := ⟨zic3, zii_3, by decide, zid3, (Or.inr ⟨"TwoHandles", (List.mem_filter.mpr ⟨zm_1 (List.mem_of_getElem? (i := 141) (by decide +kernel)), rfl⟩)⟩)⟩
theorem kiX8_41 : zCk RX8 41 yX5_init cX5_init 2 none 1 := ⟨zic5, zii_5, by decide, zid5, (Or.inr ⟨"TwoHandles", (List.mem_filter.mpr ⟨zm_1 (List.mem_of_getElem? (i := 167) (by decide +kernel)), rfl⟩)⟩)⟩
theorem kiX8_60 : zCk RX8 60 yX2_init cX2_init 2 none 1 := ⟨zic2, zii_2, by decide, zid2, (Or.inr ⟨"TwoHandles", (List.mem_filter.mpr ⟨zm_1 (List.mem_of_getElem? (i := 226) (by decide +kernel)), rfl⟩)⟩)⟩
theorem kiX8_67 : zCk RX8 67 yX0_init cX0_init 2 none 1 := ⟨zic0, zii_0, by decide, zid0, (Or.inr ⟨"TwoHandles", (List.mem_filter.mpr ⟨zm_2 (List.mem_of_getElem? (i := 11) (by decide +kernel)), rfl⟩)⟩)⟩
theorem kiX8_74 : zCk RX8 74 yX4_init cX4_init 3 none 2 := ⟨zic4, zii_4, by decide, zid4, (Or.inr ⟨"TwoHandles", (List.mem_filter.mpr ⟨zm_2 (List.mem_of_getElem? (i := 30) (by decide +kernel)), rfl⟩)⟩)⟩
theorem kiX8_83 : zCk RX8 83 yX6_init cX6_init 2 none 1 := ⟨zic6, zii_6, by decide, zid6, (Or.inr ⟨"TwoHandles", (List.mem_filter.mpr ⟨zm_2 (List.mem_of_getElem? (i := 72) (by decide +kernel)), rfl⟩)⟩)⟩
theorem dX7_init_0 : decode cX7_init 0 = .ok (.aload_n 0, 1) := by decide +kernel
theorem dX7_init_1 : decode cX7_init 1 = .ok (.invokespecial 3, 3) := by decide +kernel
theorem dX7_init_4 : decode cX7_init 4 = .ok (.aload_n 0, 1) := by decide +kernel
theorem dX7_init_5 : decode cX7_init 5 = .ok (.iconst 0, 1) := by decide +kernel
theorem dX7_init_6 : decode cX7_init 6 = .ok (.putfield 9, 3) := by decide +kernel
theorem dX7_init_9 : decode cX7_init 9 = .ok (.aload_n 0, 1) := by decide +kernel
theorem dX7_init_10 : decode cX7_init 10 = .ok (.iconst 0, 1) := by decide +kernel
theorem dX7_init_11 : decode cX7_init 11 = .ok (.putfield 15, 3) := by decide +kernel
theorem dX7_init_14 : decode cX7_init 14 = .ok (.aload_n 0, 1) := by decide +kernel
theorem dX7_init_15 : decode cX7_init 15 = .ok (.iconst 0, 1) := by decide +kernel
theorem dX7_init_16 : decode cX7_init 16 = .ok (.putfield 18, 3) := by decide +kernel
theorem dX7_init_19 : decode cX7_init 19 = .ok (.aload_n 0, 1) := by decide +kernel
theorem dX7_init_20 : decode cX7_init 20 = .ok (.iconst 0, 1) := by decide +kernel
theorem dX7_init_21 : decode cX7_init 21 = .ok (.putfield 21, 3) := by decide +kernel
theorem dX7_init_24 : decode cX7_init 24 = .ok (.aload_n 0, 1) := by decide +kernel
theorem dX7_init_25 : decode cX7_init 25 = .ok (.iconst 0, 1) := by decide +kernel
theorem dX7_init_26 : decode cX7_init 26 = .ok (.putfield 24, 3) := by decide +kernel
theorem dX7_init_29 : decode cX7_init 29 = .ok (.aload_n 0, 1) := by decide +kernel
theorem dX7_init_30 : decode cX7_init 30 = .ok (.iconst 0, 1) := by decide +kernel
theorem dX7_init_31 : decode cX7_init 31 = .ok (.putfield 27, 3) := by decide +kernel
theorem dX7_init_34 : decode cX7_init 34 = .ok (.aload_n 0, 1) := by decide +kernel
theorem dX7_init_35 : decode cX7_init 35 = .ok (.bipush 7, 2) := by decide +kernel
theorem dX7_init_37 : decode cX7_init 37 = .ok (.newarray .int, 2) := by decide +kernel
theorem dX7_init_39 : decode cX7_init 39 = .ok (.putfield 30, 3) := by decide +kernel
theorem dX7_init_42 : decode cX7_init 42 = .ok (.aload_n 0, 1) := by decide +kernel
theorem dX7_init_43 : decode cX7_init 43 = .ok (.bipush 36, 2) := by decide +kernel
theorem dX7_init_45 : decode cX7_init 45 = .ok (.newarray .int, 2) := by decide +kernel
theorem dX7_init_47 : decode cX7_init 47 = .ok (.putfield 34, 3) := by decide +kernel
theorem dX7_init_50 : decode cX7_init 50 = .ok (.aload_n 0, 1) := by decide +kernel
theorem dX7_init_51 : decode cX7_init 51 = .ok (.bipush 9, 2) := by decide +kernel
theorem dX7_init_53 : decode cX7_init 53 = .ok (.newarray .int, 2) := by decide +kernel
theorem dX7_init_55 : decode cX7_init 55 = .ok (.putfield 37, 3) := by decide +kernel
theorem dX7_init_58 : decode cX7_init 58 = .ok (.aload_n 0, 1) := by decide +kernel
theorem dX7_init_59 : decode cX7_init 59 = .ok (.bipush 9, 2) := by decide +kernel
theorem dX7_init_61 : decode cX7_init 61 = .ok (.newarray .int, 2) := by decide +kernel
theorem dX7_init_63 : decode cX7_init 63 = .ok (.putfield 40, 3) := by decide +kernel
theorem dX7_init_66 : decode cX7_init 66 = .ok (.aload_n 0, 1) := by decide +kernel
theorem dX7_init_67 : decode cX7_init 67 = .ok (.bipush 9, 2) := by decide +kernel
theorem dX7_init_69 : decode cX7_init 69 = .ok (.newarray .int, 2) := by decide +kernel
theorem dX7_init_71 : decode cX7_init 71 = .ok (.putfield 43, 3) := by decide +kernel
theorem dX7_init_74 : decode cX7_init 74 = .ok (.aload_n 0, 1) := by decide +kernel
theorem dX7_init_75 : decode cX7_init 75 = .ok (.bipush 10, 2) := by decide +kernel
theorem dX7_init_77 : decode cX7_init 77 = .ok (.newarray .int, 2) := by decide +kernel
theorem dX7_init_79 : decode cX7_init 79 = .ok (.putfield 46, 3) := by decide +kernel
theorem dX7_init_82 : decode cX7_init 82 = .ok (.aload_n 0, 1) := by decide +kernel
theorem dX7_init_83 : decode cX7_init 83 = .ok (.bipush 10, 2) := by decide +kernel
theorem dX7_init_85 : decode cX7_init 85 = .ok (.newarray .int, 2) := by decide +kernel
theorem dX7_init_87 : decode cX7_init 87 = .ok (.putfield 49, 3) := by decide +kernel
theorem dX7_init_90 : decode cX7_init 90 = .ok (.aload_n 0, 1) := by decide +kernel
theorem dX7_init_91 : decode cX7_init 91 = .ok (.bipush 10, 2) := by decide +kernel
theorem dX7_init_93 : decode cX7_init 93 = .ok (.newarray .int, 2) := by decide +kernel
theorem dX7_init_95 : decode cX7_init 95 = .ok (.putfield 52, 3) := by decide +kernel
theorem dX7_init_98 : decode cX7_init 98 = .ok (.aload_n 0, 1) := by decide +kernel
theorem dX7_init_99 : decode cX7_init 99 = .ok (.bipush 10, 2) := by decide +kernel
theorem dX7_init_101 : decode cX7_init 101 = .ok (.newarray .int, 2) := by decide +kernel
theorem dX7_init_103 : decode cX7_init 103 = .ok (.putfield 55, 3) := by decide +kernel
theorem dX7_init_106 : decode cX7_init 106 = .ok (.return_, 1) := by decide +kernel
def cS7 (k n : Nat) (S : Nat → zSh) : Nat → zSh := (zupS (zupS (zupS (zupS (zupS (zupS (zupS (zupS (zupS (zupS (zupS (zupS (zupS (zupS (zupS (zupS (zupS (zupS S n (1, 0, 7, zn)) k (0, 7, 0, (fun i => if i = 6 then some n else zn i))) (n + 1) (1, 0, 36, zn)) k (0, 7, 0, (fun i => if i = 7 then some (n + 1) else (fun i => if i = 6 then some n else zn i) i))) (n + 2) (1, 0, 9, zn)) k (0, 7, 0, (fun i => if i = 8 then some (n + 2) else (fun i => if i = 7 then some (n + 1) else (fun i => if i = 6 then some n else zn i) i) i))) (n + 3) (1, 0, 9, zn)) k (0, 7, 0, (fun i => if i = 9 then some (n + 3) else (fun i => if i = 8 then some (n + 2) else (fun i => if i = 7 then some (n + 1) else (fun i => if i = 6 then some n else zn i) i) i) i))) (n + 4) (1, 0, 9, zn)) k (0, 7, 0, (fun i => if i = 10 then some (n + 4) else (fun i => if i = 9 then some (n + 3) else (fun i => if i = 8 then some (n + 2) else (fun i => if i = 7 then some (n + 1) else (fun i => if i = 6 then some n else zn i) i) i) i) i))) (n + 5) (1, 0, 10, zn)) k (0, 7, 0, (fun i => if i = 11 then some (n + 5) else (fun i => if i = 10 then some (n + 4) else (fun i => if i = 9 then some (n + 3) else (fun i => if i = 8 then some (n + 2) else (fun i => if i = 7 then some (n + 1) else (fun i => if i = 6 then some n else zn i) i) i) i) i) i))) (n + 6) (1, 0, 10, zn)) k (0, 7, 0, (fun i => if i = 12 then some (n + 6) else (fun i => if i = 11 then some (n + 5) else (fun i => if i = 10 then some (n + 4) else (fun i => if i = 9 then some (n + 3) else (fun i => if i = 8 then some (n + 2) else (fun i => if i = 7 then some (n + 1) else (fun i => if i = 6 then some n else zn i) i) i) i) i) i) i))) (n + 7) (1, 0, 10, zn)) k (0, 7, 0, (fun i => if i = 13 then some (n + 7) else (fun i => if i = 12 then some (n + 6) else (fun i => if i = 11 then some (n + 5) else (fun i => if i = 10 then some (n + 4) else (fun i => if i = 9 then some (n + 3) else (fun i => if i = 8 then some (n + 2) else (fun i => if i = 7 then some (n + 1) else (fun i => if i = 6 then some n else zn i) i) i) i) i) i) i) i))) (n + 8) (1, 0, 10, zn)) k (0, 7, 0, (fun i => if i = 14 then some (n + 8) else (fun i => if i = 13 then some (n + 7) else (fun i => if i = 12 then some (n + 6) else (fun i => if i = 11 then some (n + 5) else (fun i => if i = 10 then some (n + 4) else (fun i => if i = 9 then some (n + 3) else (fun i => if i = 8 then some (n + 2) else (fun i => if i = 7 then some (n + 1) else (fun i => if i = 6 then some n else zn i) i) i) i) i) i) i) i) i)))
def cM7 (k n : Nat) (μ : zMem) : zMem := (zup (zup (zup (zup (zup (zup (zup (zup (zup (zset (zset (zset (zset (zset (zset μ k 0 (0 : Int32)) k 1 (0 : Int32)) k 2 (0 : Int32)) k 3 (0 : Int32)) k 4 (0 : Int32)) k 5 (0 : Int32)) n (fun _ => 0)) (n + 1) (fun _ => 0)) (n + 2) (fun _ => 0)) (n + 3) (fun _ => 0)) (n + 4) (fun _ => 0)) (n + 5) (fun _ => 0)) (n + 6) (fun _ => 0)) (n + 7) (fun _ => 0)) (n + 8) (fun _ => 0))
set_option maxHeartbeats 4000000 in
theorem tc7 {k n : Nat} {S : Nat → zSh} {μ : zMem} (hwf : zWf n S) (hb : k < n) (hs : S k = (0, 7, 0, zn)) (hn : n + 9 ≤ 1000000) : zM yX7_init cX7_init 1 none 2 [.ref k] n S μ (.inl none, n + 9, cS7 k n S, cM7 k n μ, 9, 110) := by
  refine zM_of (by decide +kernel) (by simp [Value.category]) (by simp) (Nat.le_of_ble_eq_true rfl) ?_
  show zAW _ _ _ _ _ _ [.ref k] _ _ _ _ _
  unfold cS7 cM7
  refine zA_aload_n (pc := 0) dX7_init_0 rfl ?_
  refine zA_objInit (pc := 1) koX7_3 zoi zoc (by decide) (Nat.le_of_ble_eq_true rfl) dX7_init_1 ?_
  refine zA_aload_n (pc := 4) dX7_init_4 rfl ?_
  refine zA_iconst (pc := 5) (0 : Int32) dX7_init_5 (by decide) ?_
  refine zA_puti (pc := 6) fdX7_9 hb hs rfl rfl dX7_init_6 ?_
  refine zA_aload_n (pc := 9) dX7_init_9 rfl ?_
  refine zA_iconst (pc := 10) (0 : Int32) dX7_init_10 (by decide) ?_
  refine zA_puti (pc := 11) fdX7_15 hb hs rfl rfl dX7_init_11 ?_
  refine zA_aload_n (pc := 14) dX7_init_14 rfl ?_
  refine zA_iconst (pc := 15) (0 : Int32) dX7_init_15 (by decide) ?_
  refine zA_puti (pc := 16) fdX7_18 hb hs rfl rfl dX7_init_16 ?_
  refine zA_aload_n (pc := 19) dX7_init_19 rfl ?_
  refine zA_iconst (pc := 20) (0 : Int32) dX7_init_20 (by decide) ?_
  refine zA_puti (pc := 21) fdX7_21 hb hs rfl rfl dX7_init_21 ?_
  refine zA_aload_n (pc := 24) dX7_init_24 rfl ?_
  refine zA_iconst (pc := 25) (0 : Int32) dX7_init_25 (by decide) ?_
  refine zA_puti (pc := 26) fdX7_24 hb hs rfl rfl dX7_init_26 ?_
  refine zA_aload_n (pc := 29) dX7_init_29 rfl ?_
  refine zA_iconst (pc := 30) (0 : Int32) dX7_init_30 (by decide) ?_
  refine zA_puti (pc := 31) fdX7_27 hb hs rfl rfl dX7_init_31 ?_
  refine zA_aload_n (pc := 34) dX7_init_34 rfl ?_
  refine zA_bipush (pc := 35) (7 : Int32) dX7_init_35 (by decide) ?_
  refine zA_newi (pc := 37) (N := 7) (w := (7 : Int32)) hwf hs hb (by omega) (by simp only [List.mem_cons, List.not_mem_nil, or_false, forall_eq_or_imp, forall_eq, ne_eq, zrefEq, reduceCtorEq, not_false_eq_true, and_true, true_and, false_implies, implies_true] <;> omega) (by simp only [List.mem_cons, List.not_mem_nil, or_false, forall_eq_or_imp, forall_eq, ne_eq, zrefEq, reduceCtorEq, not_false_eq_true, and_true, true_and, false_implies, implies_true] <;> omega) zai (by decide) (by decide) (by decide) dX7_init_37 (fun hwf hs => ?_)
  have hb := Nat.lt_succ_of_lt hb
  refine zA_putr (pc := 39) fdX7_30 hwf hb (by omega) hs rfl (Or.inr ⟨rfl, rfl, rfl, TX7, 15, rfl, flX7_30⟩) dX7_init_39 (fun hwf hs => ?_)
  refine zA_aload_n (pc := 42) dX7_init_42 rfl ?_
  refine zA_bipush (pc := 43) (36 : Int32) dX7_init_43 (by decide) ?_
  refine zA_newi (pc := 45) (N := 36) (w := (36 : Int32)) hwf hs hb (by omega) (by simp only [List.mem_cons, List.not_mem_nil, or_false, forall_eq_or_imp, forall_eq, ne_eq, zrefEq, reduceCtorEq, not_false_eq_true, and_true, true_and, false_implies, implies_true] <;> omega) (by simp only [List.mem_cons, List.not_mem_nil, or_false, forall_eq_or_imp, forall_eq, ne_eq, zrefEq, reduceCtorEq, not_false_eq_true, and_true, true_and, false_implies, implies_true] <;> omega) zai (by decide) (by decide) (by decide) dX7_init_45 (fun hwf hs => ?_)
  have hb := Nat.lt_succ_of_lt hb
  refine zA_putr (pc := 47) fdX7_34 hwf hb (by omega) hs rfl (Or.inr ⟨rfl, rfl, rfl, TX7, 15, rfl, flX7_34⟩) dX7_init_47 (fun hwf hs => ?_)
  refine zA_aload_n (pc := 50) dX7_init_50 rfl ?_
  refine zA_bipush (pc := 51) (9 : Int32) dX7_init_51 (by decide) ?_
  refine zA_newi (pc := 53) (N := 9) (w := (9 : Int32)) hwf hs hb (by omega) (by simp only [List.mem_cons, List.not_mem_nil, or_false, forall_eq_or_imp, forall_eq, ne_eq, zrefEq, reduceCtorEq, not_false_eq_true, and_true, true_and, false_implies, implies_true] <;> omega) (by simp only [List.mem_cons, List.not_mem_nil, or_false, forall_eq_or_imp, forall_eq, ne_eq, zrefEq, reduceCtorEq, not_false_eq_true, and_true, true_and, false_implies, implies_true] <;> omega) zai (by decide) (by decide) (by decide) dX7_init_53 (fun hwf hs => ?_)
  have hb := Nat.lt_succ_of_lt hb
  refine zA_putr (pc := 55) fdX7_37 hwf hb (by omega) hs rfl (Or.inr ⟨rfl, rfl, rfl, TX7, 15, rfl, flX7_37⟩) dX7_init_55 (fun hwf hs => ?_)
  refine zA_aload_n (pc := 58) dX7_init_58 rfl ?_
  refine zA_bipush (pc := 59) (9 : Int32) dX7_init_59 (by decide) ?_
  refine zA_newi (pc := 61) (N := 9) (w := (9 : Int32)) hwf hs hb (by omega) (by simp only [List.mem_cons, List.not_mem_nil, or_false, forall_eq_or_imp, forall_eq, ne_eq, zrefEq, reduceCtorEq, not_false_eq_true, and_true, true_and, false_implies, implies_true] <;> omega) (by simp only [List.mem_cons, List.not_mem_nil, or_false, forall_eq_or_imp, forall_eq, ne_eq, zrefEq, reduceCtorEq, not_false_eq_true, and_true, true_and, false_implies, implies_true] <;> omega) zai (by decide) (by decide) (by decide) dX7_init_61 (fun hwf hs => ?_)
  have hb := Nat.lt_succ_of_lt hb
  refine zA_putr (pc := 63) fdX7_40 hwf hb (by omega) hs rfl (Or.inr ⟨rfl, rfl, rfl, TX7, 15, rfl, flX7_40⟩) dX7_init_63 (fun hwf hs => ?_)
  refine zA_aload_n (pc := 66) dX7_init_66 rfl ?_
  refine zA_bipush (pc := 67) (9 : Int32) dX7_init_67 (by decide) ?_
  refine zA_newi (pc := 69) (N := 9) (w := (9 : Int32)) hwf hs hb (by omega) (by simp only [List.mem_cons, List.not_mem_nil, or_false, forall_eq_or_imp, forall_eq, ne_eq, zrefEq, reduceCtorEq, not_false_eq_true, and_true, true_and, false_implies, implies_true] <;> omega) (by simp only [List.mem_cons, List.not_mem_nil, or_false, forall_eq_or_imp, forall_eq, ne_eq, zrefEq, reduceCtorEq, not_false_eq_true, and_true, true_and, false_implies, implies_true] <;> omega) zai (by decide) (by decide) (by decide) dX7_init_69 (fun hwf hs => ?_)
  have hb := Nat.lt_succ_of_lt hb
  refine zA_putr (pc := 71) fdX7_43 hwf hb (by omega) hs rfl (Or.inr ⟨rfl, rfl, rfl, TX7, 15, rfl, flX7_43⟩) dX7_init_71 (fun hwf hs => ?_)
  refine zA_aload_n (pc := 74) dX7_init_74 rfl ?_
  refine zA_bipush (pc := 75) (10 : Int32) dX7_init_75 (by decide) ?_
  refine zA_newi (pc := 77) (N := 10) (w := (10 : Int32)) hwf hs hb (by omega) (by simp only [List.mem_cons, List.not_mem_nil, or_false, forall_eq_or_imp, forall_eq, ne_eq, zrefEq, reduceCtorEq, not_false_eq_true, and_true, true_and, false_implies, implies_true] <;> omega) (by simp only [List.mem_cons, List.not_mem_nil, or_false, forall_eq_or_imp, forall_eq, ne_eq, zrefEq, reduceCtorEq, not_false_eq_true, and_true, true_and, false_implies, implies_true] <;> omega) zai (by decide) (by decide) (by decide) dX7_init_77 (fun hwf hs => ?_)
  have hb := Nat.lt_succ_of_lt hb
  refine zA_putr (pc := 79) fdX7_46 hwf hb (by omega) hs rfl (Or.inr ⟨rfl, rfl, rfl, TX7, 15, rfl, flX7_46⟩) dX7_init_79 (fun hwf hs => ?_)
  refine zA_aload_n (pc := 82) dX7_init_82 rfl ?_
  refine zA_bipush (pc := 83) (10 : Int32) dX7_init_83 (by decide) ?_
  refine zA_newi (pc := 85) (N := 10) (w := (10 : Int32)) hwf hs hb (by omega) (by simp only [List.mem_cons, List.not_mem_nil, or_false, forall_eq_or_imp, forall_eq, ne_eq, zrefEq, reduceCtorEq, not_false_eq_true, and_true, true_and, false_implies, implies_true] <;> omega) (by simp only [List.mem_cons, List.not_mem_nil, or_false, forall_eq_or_imp, forall_eq, ne_eq, zrefEq, reduceCtorEq, not_false_eq_true, and_true, true_and, false_implies, implies_true] <;> omega) zai (by decide) (by decide) (by decide) dX7_init_85 (fun hwf hs => ?_)
  have hb := Nat.lt_succ_of_lt hb
  refine zA_putr (pc := 87) fdX7_49 hwf hb (by omega) hs rfl (Or.inr ⟨rfl, rfl, rfl, TX7, 15, rfl, flX7_49⟩) dX7_init_87 (fun hwf hs => ?_)
  refine zA_aload_n (pc := 90) dX7_init_90 rfl ?_
  refine zA_bipush (pc := 91) (10 : Int32) dX7_init_91 (by decide) ?_
  refine zA_newi (pc := 93) (N := 10) (w := (10 : Int32)) hwf hs hb (by omega) (by simp only [List.mem_cons, List.not_mem_nil, or_false, forall_eq_or_imp, forall_eq, ne_eq, zrefEq, reduceCtorEq, not_false_eq_true, and_true, true_and, false_implies, implies_true] <;> omega) (by simp only [List.mem_cons, List.not_mem_nil, or_false, forall_eq_or_imp, forall_eq, ne_eq, zrefEq, reduceCtorEq, not_false_eq_true, and_true, true_and, false_implies, implies_true] <;> omega) zai (by decide) (by decide) (by decide) dX7_init_93 (fun hwf hs => ?_)
  have hb := Nat.lt_succ_of_lt hb
  refine zA_putr (pc := 95) fdX7_52 hwf hb (by omega) hs rfl (Or.inr ⟨rfl, rfl, rfl, TX7, 15, rfl, flX7_52⟩) dX7_init_95 (fun hwf hs => ?_)
  refine zA_aload_n (pc := 98) dX7_init_98 rfl ?_
  refine zA_bipush (pc := 99) (10 : Int32) dX7_init_99 (by decide) ?_
  refine zA_newi (pc := 101) (N := 10) (w := (10 : Int32)) hwf hs hb (by omega) (by simp only [List.mem_cons, List.not_mem_nil, or_false, forall_eq_or_imp, forall_eq, ne_eq, zrefEq, reduceCtorEq, not_false_eq_true, and_true, true_and, false_implies, implies_true] <;> omega) (by simp only [List.mem_cons, List.not_mem_nil, or_false, forall_eq_or_imp, forall_eq, ne_eq, zrefEq, reduceCtorEq, not_false_eq_true, and_true, true_and, false_implies, implies_true] <;> omega) zai (by decide) (by decide) (by decide) dX7_init_101 (fun hwf hs => ?_)
  have hb := Nat.lt_succ_of_lt hb
  refine zA_putr (pc := 103) fdX7_55 hwf hb (by omega) hs rfl (Or.inr ⟨rfl, rfl, rfl, TX7, 15, rfl, flX7_55⟩) dX7_init_103 (fun hwf hs => ?_)
  exact zA_vret (pc := 106) rfl dX7_init_106
theorem cS7_old {k n : Nat} {S : Nat → zSh} {q : Nat} (h1 : q ≠ k) (h2 : q < n) : cS7 k n S q = S q := by
  unfold cS7
  rw [zupS_ne (by omega), zupS_ne (by omega), zupS_ne (by omega), zupS_ne (by omega), zupS_ne (by omega), zupS_ne (by omega), zupS_ne (by omega), zupS_ne (by omega), zupS_ne (by omega), zupS_ne (by omega), zupS_ne (by omega), zupS_ne (by omega), zupS_ne (by omega), zupS_ne (by omega), zupS_ne (by omega), zupS_ne (by omega), zupS_ne (by omega), zupS_ne (by omega)]
theorem cS7_wf {k n : Nat} {S : Nat → zSh} (hwf : zWf n S) (hb : k < n) (hs : S k = (0, 7, 0, zn)) : zWf (n + 9) (cS7 k n S) := by
  unfold cS7
  have hwf := zWf_new (sh := (1, 0, 7, zn)) hwf (fun j r h => by cases (show (none : Option Nat) = some r from h))
  have hs := (zupS_ne (k := n) (sh := (1, 0, 7, zn)) (q := k) (by omega)).trans hs
  have hs9 := hs
  have hwf := zWf_put (i := 6) hwf (by omega) hs9 (show n < _ by omega)
  have hs : _ = _ := zupS_put (i := 6) (x := n) hs9
  have hwf := zWf_new (sh := (1, 0, 36, zn)) hwf (fun j r h => by cases (show (none : Option Nat) = some r from h))
  have hs := (zupS_ne (k := (n + 1)) (sh := (1, 0, 36, zn)) (q := k) (by omega)).trans hs
  have hs9 := hs
  have hwf := zWf_put (i := 7) hwf (by omega) hs9 (show (n + 1) < _ by omega)
  have hs : _ = _ := zupS_put (i := 7) (x := (n + 1)) hs9
  have hwf := zWf_new (sh := (1, 0, 9, zn)) hwf (fun j r h => by cases (show (none : Option Nat) = some r from h))
  have hs := (zupS_ne (k := (n + 2)) (sh := (1, 0, 9, zn)) (q := k) (by omega)).trans hs
  have hs9 := hs
  have hwf := zWf_put (i := 8) hwf (by omega) hs9 (show (n + 2) < _ by omega)
  have hs : _ = _ := zupS_put (i := 8) (x := (n + 2)) hs9
  have hwf := zWf_new (sh := (1, 0, 9, zn)) hwf (fun j r h => by cases (show (none : Option Nat) = some r from h))
  have hs := (zupS_ne (k := (n + 3)) (sh := (1, 0, 9, zn)) (q := k) (by omega)).trans hs
  have hs9 := hs
  have hwf := zWf_put (i := 9) hwf (by omega) hs9 (show (n + 3) < _ by omega)
  have hs : _ = _ := zupS_put (i := 9) (x := (n + 3)) hs9
  have hwf := zWf_new (sh := (1, 0, 9, zn)) hwf (fun j r h => by cases (show (none : Option Nat) = some r from h))
  have hs := (zupS_ne (k := (n + 4)) (sh := (1, 0, 9, zn)) (q := k) (by omega)).trans hs
  have hs9 := hs
  have hwf := zWf_put (i := 10) hwf (by omega) hs9 (show (n + 4) < _ by omega)
  have hs : _ = _ := zupS_put (i := 10) (x := (n + 4)) hs9
  have hwf := zWf_new (sh := (1, 0, 10, zn)) hwf (fun j r h => by cases (show (none : Option Nat) = some r from h))
  have hs := (zupS_ne (k := (n + 5)) (sh := (1, 0, 10, zn)) (q := k) (by omega)).trans hs
  have hs9 := hs
  have hwf := zWf_put (i := 11) hwf (by omega) hs9 (show (n + 5) < _ by omega)
  have hs : _ = _ := zupS_put (i := 11) (x := (n + 5)) hs9
  have hwf := zWf_new (sh := (1, 0, 10, zn)) hwf (fun j r h => by cases (show (none : Option Nat) = some r from h))
  have hs := (zupS_ne (k := (n + 6)) (sh := (1, 0, 10, zn)) (q := k) (by omega)).trans hs
  have hs9 := hs
  have hwf := zWf_put (i := 12) hwf (by omega) hs9 (show (n + 6) < _ by omega)
  have hs : _ = _ := zupS_put (i := 12) (x := (n + 6)) hs9
  have hwf := zWf_new (sh := (1, 0, 10, zn)) hwf (fun j r h => by cases (show (none : Option Nat) = some r from h))
  have hs := (zupS_ne (k := (n + 7)) (sh := (1, 0, 10, zn)) (q := k) (by omega)).trans hs
  have hs9 := hs
  have hwf := zWf_put (i := 13) hwf (by omega) hs9 (show (n + 7) < _ by omega)
  have hs : _ = _ := zupS_put (i := 13) (x := (n + 7)) hs9
  have hwf := zWf_new (sh := (1, 0, 10, zn)) hwf (fun j r h => by cases (show (none : Option Nat) = some r from h))
  have hs := (zupS_ne (k := (n + 8)) (sh := (1, 0, 10, zn)) (q := k) (by omega)).trans hs
  have hs9 := hs
  have hwf := zWf_put (i := 14) hwf (by omega) hs9 (show (n + 8) < _ by omega)
  have hs : _ = _ := zupS_put (i := 14) (x := (n + 8)) hs9
  exact hwf

theorem dX5_init_0 : decode cX5_init 0 = .ok (.aload_n 0, 1) := by decide +kernel
theorem dX5_init_1 : decode cX5_init 1 = .ok (.invokespecial 3, 3) := by decide +kernel
theorem dX5_init_4 : decode cX5_init 4 = .ok (.aload_n 0, 1) := by decide +kernel
theorem dX5_init_5 : decode cX5_init 5 = .ok (.iconst 0, 1) := by decide +kernel
theorem dX5_init_6 : decode cX5_init 6 = .ok (.putfield 9, 3) := by decide +kernel
theorem dX5_init_9 : decode cX5_init 9 = .ok (.aload_n 0, 1) := by decide +kernel
theorem dX5_init_10 : decode cX5_init 10 = .ok (.iconst 0, 1) := by decide +kernel
theorem dX5_init_11 : decode cX5_init 11 = .ok (.putfield 15, 3) := by decide +kernel
theorem dX5_init_14 : decode cX5_init 14 = .ok (.aload_n 0, 1) := by decide +kernel
theorem dX5_init_15 : decode cX5_init 15 = .ok (.iconst 0, 1) := by decide +kernel
theorem dX5_init_16 : decode cX5_init 16 = .ok (.putfield 18, 3) := by decide +kernel
theorem dX5_init_19 : decode cX5_init 19 = .ok (.aload_n 0, 1) := by decide +kernel
theorem dX5_init_20 : decode cX5_init 20 = .ok (.iconst 0, 1) := by decide +kernel
theorem dX5_init_21 : decode cX5_init 21 = .ok (.putfield 21, 3) := by decide +kernel
theorem dX5_init_24 : decode cX5_init 24 = .ok (.aload_n 0, 1) := by decide +kernel
theorem dX5_init_25 : decode cX5_init 25 = .ok (.iconst 0, 1) := by decide +kernel
theorem dX5_init_26 : decode cX5_init 26 = .ok (.putfield 24, 3) := by decide +kernel
theorem dX5_init_29 : decode cX5_init 29 = .ok (.aload_n 0, 1) := by decide +kernel
theorem dX5_init_30 : decode cX5_init 30 = .ok (.bipush 36, 2) := by decide +kernel
theorem dX5_init_32 : decode cX5_init 32 = .ok (.newarray .int, 2) := by decide +kernel
theorem dX5_init_34 : decode cX5_init 34 = .ok (.putfield 27, 3) := by decide +kernel
theorem dX5_init_37 : decode cX5_init 37 = .ok (.aload_n 0, 1) := by decide +kernel
theorem dX5_init_38 : decode cX5_init 38 = .ok (.bipush 9, 2) := by decide +kernel
theorem dX5_init_40 : decode cX5_init 40 = .ok (.newarray .int, 2) := by decide +kernel
theorem dX5_init_42 : decode cX5_init 42 = .ok (.putfield 31, 3) := by decide +kernel
theorem dX5_init_45 : decode cX5_init 45 = .ok (.aload_n 0, 1) := by decide +kernel
theorem dX5_init_46 : decode cX5_init 46 = .ok (.bipush 9, 2) := by decide +kernel
theorem dX5_init_48 : decode cX5_init 48 = .ok (.newarray .int, 2) := by decide +kernel
theorem dX5_init_50 : decode cX5_init 50 = .ok (.putfield 34, 3) := by decide +kernel
theorem dX5_init_53 : decode cX5_init 53 = .ok (.aload_n 0, 1) := by decide +kernel
theorem dX5_init_54 : decode cX5_init 54 = .ok (.iconst 0, 1) := by decide +kernel
theorem dX5_init_55 : decode cX5_init 55 = .ok (.putfield 37, 3) := by decide +kernel
theorem dX5_init_58 : decode cX5_init 58 = .ok (.aload_n 0, 1) := by decide +kernel
theorem dX5_init_59 : decode cX5_init 59 = .ok (.bipush 30, 2) := by decide +kernel
theorem dX5_init_61 : decode cX5_init 61 = .ok (.newarray .int, 2) := by decide +kernel
theorem dX5_init_63 : decode cX5_init 63 = .ok (.putfield 40, 3) := by decide +kernel
theorem dX5_init_66 : decode cX5_init 66 = .ok (.aload_n 0, 1) := by decide +kernel
theorem dX5_init_67 : decode cX5_init 67 = .ok (.aload_n 1, 1) := by decide +kernel
theorem dX5_init_68 : decode cX5_init 68 = .ok (.putfield 43, 3) := by decide +kernel
theorem dX5_init_71 : decode cX5_init 71 = .ok (.return_, 1) := by decide +kernel
def cS5 (k n : Nat) (t : Nat) (S : Nat → zSh) : Nat → zSh := (zupS (zupS (zupS (zupS (zupS (zupS (zupS (zupS (zupS S n (1, 0, 36, zn)) k (0, 5, 0, (fun i => if i = 6 then some n else zn i))) (n + 1) (1, 0, 9, zn)) k (0, 5, 0, (fun i => if i = 7 then some (n + 1) else (fun i => if i = 6 then some n else zn i) i))) (n + 2) (1, 0, 9, zn)) k (0, 5, 0, (fun i => if i = 8 then some (n + 2) else (fun i => if i = 7 then some (n + 1) else (fun i => if i = 6 then some n else zn i) i) i))) (n + 3) (1, 0, 30, zn)) k (0, 5, 0, (fun i => if i = 10 then some (n + 3) else (fun i => if i = 8 then some (n + 2) else (fun i => if i = 7 then some (n + 1) else (fun i => if i = 6 then some n else zn i) i) i) i))) k (0, 5, 0, (fun i => if i = 0 then some t else (fun i => if i = 10 then some (n + 3) else (fun i => if i = 8 then some (n + 2) else (fun i => if i = 7 then some (n + 1) else (fun i => if i = 6 then some n else zn i) i) i) i) i)))
def cM5 (k n : Nat) (μ : zMem) : zMem := (zup (zset (zup (zup (zup (zset (zset (zset (zset (zset μ k 1 (0 : Int32)) k 2 (0 : Int32)) k 3 (0 : Int32)) k 4 (0 : Int32)) k 5 (0 : Int32)) n (fun _ => 0)) (n + 1) (fun _ => 0)) (n + 2) (fun _ => 0)) k 9 (0 : Int32)) (n + 3) (fun _ => 0))
set_option maxHeartbeats 4000000 in
theorem tc5 {k n : Nat} {t : Nat} {S : Nat → zSh} {μ : zMem} (hwf : zWf n S) (hb : k < n) (hs : S k = (0, 5, 0, zn)) (hn : n + 4 ≤ 1000000) (ht : t < n) : zM yX5_init cX5_init 2 none 2 [.ref k, .ref t] n S μ (.inl none, n + 4, cS5 k n t S, cM5 k n μ, 4, 84) := by
  refine zM_of (by decide +kernel) (by simp [Value.category]) (by simp) (Nat.le_of_ble_eq_true rfl) ?_
  show zAW _ _ _ _ _ _ [.ref k, .ref t] _ _ _ _ _
  unfold cS5 cM5
  refine zA_aload_n (pc := 0) dX5_init_0 rfl ?_
  refine zA_objInit (pc := 1) koX5_3 zoi zoc (by decide) (Nat.le_of_ble_eq_true rfl) dX5_init_1 ?_
  refine zA_aload_n (pc := 4) dX5_init_4 rfl ?_
  refine zA_iconst (pc := 5) (0 : Int32) dX5_init_5 (by decide) ?_
  refine zA_puti (pc := 6) fdX5_9 hb hs rfl rfl dX5_init_6 ?_
  refine zA_aload_n (pc := 9) dX5_init_9 rfl ?_
  refine zA_iconst (pc := 10) (0 : Int32) dX5_init_10 (by decide) ?_
  refine zA_puti (pc := 11) fdX5_15 hb hs rfl rfl dX5_init_11 ?_
  refine zA_aload_n (pc := 14) dX5_init_14 rfl ?_
  refine zA_iconst (pc := 15) (0 : Int32) dX5_init_15 (by decide) ?_
  refine zA_puti (pc := 16) fdX5_18 hb hs rfl rfl dX5_init_16 ?_
  refine zA_aload_n (pc := 19) dX5_init_19 rfl ?_
  refine zA_iconst (pc := 20) (0 : Int32) dX5_init_20 (by decide) ?_
  refine zA_puti (pc := 21) fdX5_21 hb hs rfl rfl dX5_init_21 ?_
  refine zA_aload_n (pc := 24) dX5_init_24 rfl ?_
  refine zA_iconst (pc := 25) (0 : Int32) dX5_init_25 (by decide) ?_
  refine zA_puti (pc := 26) fdX5_24 hb hs rfl rfl dX5_init_26 ?_
  refine zA_aload_n (pc := 29) dX5_init_29 rfl ?_
  refine zA_bipush (pc := 30) (36 : Int32) dX5_init_30 (by decide) ?_
  refine zA_newi (pc := 32) (N := 36) (w := (36 : Int32)) hwf hs hb (by omega) (by simp only [List.mem_cons, List.not_mem_nil, or_false, forall_eq_or_imp, forall_eq, ne_eq, zrefEq, reduceCtorEq, not_false_eq_true, and_true, true_and, false_implies, implies_true] <;> omega) (by simp only [List.mem_cons, List.not_mem_nil, or_false, forall_eq_or_imp, forall_eq, ne_eq, zrefEq, reduceCtorEq, not_false_eq_true, and_true, true_and, false_implies, implies_true] <;> omega) zai (by decide) (by decide) (by decide) dX5_init_32 (fun hwf hs => ?_)
  have hb := Nat.lt_succ_of_lt hb
  refine zA_putr (pc := 34) fdX5_27 hwf hb (by omega) hs rfl (Or.inr ⟨rfl, rfl, rfl, TX5, 11, rfl, flX5_27⟩) dX5_init_34 (fun hwf hs => ?_)
  refine zA_aload_n (pc := 37) dX5_init_37 rfl ?_
  refine zA_bipush (pc := 38) (9 : Int32) dX5_init_38 (by decide) ?_
  refine zA_newi (pc := 40) (N := 9) (w := (9 : Int32)) hwf hs hb (by omega) (by simp only [List.mem_cons, List.not_mem_nil, or_false, forall_eq_or_imp, forall_eq, ne_eq, zrefEq, reduceCtorEq, not_false_eq_true, and_true, true_and, false_implies, implies_true] <;> omega) (by simp only [List.mem_cons, List.not_mem_nil, or_false, forall_eq_or_imp, forall_eq, ne_eq, zrefEq, reduceCtorEq, not_false_eq_true, and_true, true_and, false_implies, implies_true] <;> omega) zai (by decide) (by decide) (by decide) dX5_init_40 (fun hwf hs => ?_)
  have hb := Nat.lt_succ_of_lt hb
  refine zA_putr (pc := 42) fdX5_31 hwf hb (by omega) hs rfl (Or.inr ⟨rfl, rfl, rfl, TX5, 11, rfl, flX5_31⟩) dX5_init_42 (fun hwf hs => ?_)
  refine zA_aload_n (pc := 45) dX5_init_45 rfl ?_
  refine zA_bipush (pc := 46) (9 : Int32) dX5_init_46 (by decide) ?_
  refine zA_newi (pc := 48) (N := 9) (w := (9 : Int32)) hwf hs hb (by omega) (by simp only [List.mem_cons, List.not_mem_nil, or_false, forall_eq_or_imp, forall_eq, ne_eq, zrefEq, reduceCtorEq, not_false_eq_true, and_true, true_and, false_implies, implies_true] <;> omega) (by simp only [List.mem_cons, List.not_mem_nil, or_false, forall_eq_or_imp, forall_eq, ne_eq, zrefEq, reduceCtorEq, not_false_eq_true, and_true, true_and, false_implies, implies_true] <;> omega) zai (by decide) (by decide) (by decide) dX5_init_48 (fun hwf hs => ?_)
  have hb := Nat.lt_succ_of_lt hb
  refine zA_putr (pc := 50) fdX5_34 hwf hb (by omega) hs rfl (Or.inr ⟨rfl, rfl, rfl, TX5, 11, rfl, flX5_34⟩) dX5_init_50 (fun hwf hs => ?_)
  refine zA_aload_n (pc := 53) dX5_init_53 rfl ?_
  refine zA_iconst (pc := 54) (0 : Int32) dX5_init_54 (by decide) ?_
  refine zA_puti (pc := 55) fdX5_37 hb hs rfl rfl dX5_init_55 ?_
  refine zA_aload_n (pc := 58) dX5_init_58 rfl ?_
  refine zA_bipush (pc := 59) (30 : Int32) dX5_init_59 (by decide) ?_
  refine zA_newi (pc := 61) (N := 30) (w := (30 : Int32)) hwf hs hb (by omega) (by simp only [List.mem_cons, List.not_mem_nil, or_false, forall_eq_or_imp, forall_eq, ne_eq, zrefEq, reduceCtorEq, not_false_eq_true, and_true, true_and, false_implies, implies_true] <;> omega) (by simp only [List.mem_cons, List.not_mem_nil, or_false, forall_eq_or_imp, forall_eq, ne_eq, zrefEq, reduceCtorEq, not_false_eq_true, and_true, true_and, false_implies, implies_true] <;> omega) zai (by decide) (by decide) (by decide) dX5_init_61 (fun hwf hs => ?_)
  have hb := Nat.lt_succ_of_lt hb
  refine zA_putr (pc := 63) fdX5_40 hwf hb (by omega) hs rfl (Or.inr ⟨rfl, rfl, rfl, TX5, 11, rfl, flX5_40⟩) dX5_init_63 (fun hwf hs => ?_)
  refine zA_aload_n (pc := 66) dX5_init_66 rfl ?_
  refine zA_aload_n (pc := 67) dX5_init_67 rfl ?_
  refine zA_putr (pc := 68) fdX5_43 hwf hb (by omega) hs rfl (Or.inr ⟨rfl, rfl, rfl, TX5, 11, rfl, flX5_43⟩) dX5_init_68 (fun hwf hs => ?_)
  exact zA_vret (pc := 71) rfl dX5_init_71
theorem cS5_old {k n : Nat} {t : Nat} {S : Nat → zSh} {q : Nat} (h1 : q ≠ k) (h2 : q < n) : cS5 k n t S q = S q := by
  unfold cS5
  rw [zupS_ne (by omega), zupS_ne (by omega), zupS_ne (by omega), zupS_ne (by omega), zupS_ne (by omega), zupS_ne (by omega), zupS_ne (by omega), zupS_ne (by omega), zupS_ne (by omega)]
theorem cS5_wf {k n : Nat} {t : Nat} {S : Nat → zSh} (hwf : zWf n S) (hb : k < n) (hs : S k = (0, 5, 0, zn)) (ht : t < n) : zWf (n + 4) (cS5 k n t S) := by
  unfold cS5
  have hwf := zWf_new (sh := (1, 0, 36, zn)) hwf (fun j r h => by cases (show (none : Option Nat) = some r from h))
  have hs := (zupS_ne (k := n) (sh := (1, 0, 36, zn)) (q := k) (by omega)).trans hs
  have hs9 := hs
  have hwf := zWf_put (i := 6) hwf (by omega) hs9 (show n < _ by omega)
  have hs : _ = _ := zupS_put (i := 6) (x := n) hs9
  have hwf := zWf_new (sh := (1, 0, 9, zn)) hwf (fun j r h => by cases (show (none : Option Nat) = some r from h))
  have hs := (zupS_ne (k := (n + 1)) (sh := (1, 0, 9, zn)) (q := k) (by omega)).trans hs
  have hs9 := hs
  have hwf := zWf_put (i := 7) hwf (by omega) hs9 (show (n + 1) < _ by omega)
  have hs : _ = _ := zupS_put (i := 7) (x := (n + 1)) hs9
  have hwf := zWf_new (sh := (1, 0, 9, zn)) hwf (fun j r h => by cases (show (none : Option Nat) = some r from h))
  have hs := (zupS_ne (k := (n + 2)) (sh := (1, 0, 9, zn)) (q := k) (by omega)).trans hs
  have hs9 := hs
  have hwf := zWf_put (i := 8) hwf (by omega) hs9 (show (n + 2) < _ by omega)
  have hs : _ = _ := zupS_put (i := 8) (x := (n + 2)) hs9
  have hwf := zWf_new (sh := (1, 0, 30, zn)) hwf (fun j r h => by cases (show (none : Option Nat) = some r from h))
  have hs := (zupS_ne (k := (n + 3)) (sh := (1, 0, 30, zn)) (q := k) (by omega)).trans hs
  have hs9 := hs
  have hwf := zWf_put (i := 10) hwf (by omega) hs9 (show (n + 3) < _ by omega)
  have hs : _ = _ := zupS_put (i := 10) (x := (n + 3)) hs9
  have hs9 := hs
  have hwf := zWf_put (i := 0) hwf (by omega) hs9 (show t < _ by omega)
  have hs : _ = _ := zupS_put (i := 0) (x := t) hs9
  exact hwf
theorem cS5_self {k n t : Nat} {S : Nat → zSh} : cS5 k n t S k = (0, 5, 0, (fun i => if i = 0 then some t else (fun i => if i = 10 then some (n + 3) else (fun i => if i = 8 then some (n + 2) else (fun i => if i = 7 then some (n + 1) else (fun i => if i = 6 then some n else zn i) i) i) i) i)) := zupS_self

theorem dX3_init_0 : decode cX3_init 0 = .ok (.aload_n 0, 1) := by decide +kernel
theorem dX3_init_1 : decode cX3_init 1 = .ok (.invokespecial 3, 3) := by decide +kernel
theorem dX3_init_4 : decode cX3_init 4 = .ok (.aload_n 0, 1) := by decide +kernel
theorem dX3_init_5 : decode cX3_init 5 = .ok (.iconst 0, 1) := by decide +kernel
theorem dX3_init_6 : decode cX3_init 6 = .ok (.putfield 9, 3) := by decide +kernel
theorem dX3_init_9 : decode cX3_init 9 = .ok (.aload_n 0, 1) := by decide +kernel
theorem dX3_init_10 : decode cX3_init 10 = .ok (.iconst 0, 1) := by decide +kernel
theorem dX3_init_11 : decode cX3_init 11 = .ok (.putfield 15, 3) := by decide +kernel
theorem dX3_init_14 : decode cX3_init 14 = .ok (.aload_n 0, 1) := by decide +kernel
theorem dX3_init_15 : decode cX3_init 15 = .ok (.iconst 0, 1) := by decide +kernel
theorem dX3_init_16 : decode cX3_init 16 = .ok (.putfield 18, 3) := by decide +kernel
theorem dX3_init_19 : decode cX3_init 19 = .ok (.aload_n 0, 1) := by decide +kernel
theorem dX3_init_20 : decode cX3_init 20 = .ok (.iconst (-1), 1) := by decide +kernel
theorem dX3_init_21 : decode cX3_init 21 = .ok (.putfield 21, 3) := by decide +kernel
theorem dX3_init_24 : decode cX3_init 24 = .ok (.aload_n 0, 1) := by decide +kernel
theorem dX3_init_25 : decode cX3_init 25 = .ok (.aload_n 1, 1) := by decide +kernel
theorem dX3_init_26 : decode cX3_init 26 = .ok (.putfield 24, 3) := by decide +kernel
theorem dX3_init_29 : decode cX3_init 29 = .ok (.aload_n 0, 1) := by decide +kernel
theorem dX3_init_30 : decode cX3_init 30 = .ok (.aload_n 2, 1) := by decide +kernel
theorem dX3_init_31 : decode cX3_init 31 = .ok (.putfield 28, 3) := by decide +kernel
theorem dX3_init_34 : decode cX3_init 34 = .ok (.return_, 1) := by decide +kernel
def cS3 (k n : Nat) (a : Nat) (t : Nat) (S : Nat → zSh) : Nat → zSh := (zupS (zupS S k (0, 3, 0, (fun i => if i = 0 then some a else zn i))) k (0, 3, 0, (fun i => if i = 1 then some t else (fun i => if i = 0 then some a else zn i) i)))
def cM3 (k n : Nat) (μ : zMem) : zMem := (zset (zset (zset (zset μ k 2 (0 : Int32)) k 3 (0 : Int32)) k 4 (0 : Int32)) k 5 (-1 : Int32))
set_option maxHeartbeats 4000000 in
theorem tc3 {k n : Nat} {a : Nat} {t : Nat} {S : Nat → zSh} {μ : zMem} (hwf : zWf n S) (hb : k < n) (hs : S k = (0, 3, 0, zn)) (hn : n + 0 ≤ 1000000) (ha : a < n) (ht : t < n) : zM yX3_init cX3_init 3 none 2 [.ref k, .ref a, .ref t] n S μ (.inl none, n + 0, cS3 k n a t S, cM3 k n μ, 0, 0) := by
  refine zM_of (by decide +kernel) (by simp [Value.category]) (by simp) (Nat.le_of_ble_eq_true rfl) ?_
  show zAW _ _ _ _ _ _ [.ref k, .ref a, .ref t] _ _ _ _ _
  unfold cS3 cM3
  refine zA_aload_n (pc := 0) dX3_init_0 rfl ?_
  refine zA_objInit (pc := 1) koX3_3 zoi zoc (by decide) (Nat.le_of_ble_eq_true rfl) dX3_init_1 ?_
  refine zA_aload_n (pc := 4) dX3_init_4 rfl ?_
  refine zA_iconst (pc := 5) (0 : Int32) dX3_init_5 (by decide) ?_
  refine zA_puti (pc := 6) fdX3_9 hb hs rfl rfl dX3_init_6 ?_
  refine zA_aload_n (pc := 9) dX3_init_9 rfl ?_
  refine zA_iconst (pc := 10) (0 : Int32) dX3_init_10 (by decide) ?_
  refine zA_puti (pc := 11) fdX3_15 hb hs rfl rfl dX3_init_11 ?_
  refine zA_aload_n (pc := 14) dX3_init_14 rfl ?_
  refine zA_iconst (pc := 15) (0 : Int32) dX3_init_15 (by decide) ?_
  refine zA_puti (pc := 16) fdX3_18 hb hs rfl rfl dX3_init_16 ?_
  refine zA_aload_n (pc := 19) dX3_init_19 rfl ?_
  refine zA_iconst (pc := 20) (-1 : Int32) dX3_init_20 (by decide) ?_
  refine zA_puti (pc := 21) fdX3_21 hb hs rfl rfl dX3_init_21 ?_
  refine zA_aload_n (pc := 24) dX3_init_24 rfl ?_
  refine zA_aload_n (pc := 25) dX3_init_25 rfl ?_
  refine zA_putr (pc := 26) fdX3_24 hwf hb (by omega) hs rfl (Or.inr ⟨rfl, rfl, rfl, TX3, 6, rfl, flX3_24⟩) dX3_init_26 (fun hwf hs => ?_)
  refine zA_aload_n (pc := 29) dX3_init_29 rfl ?_
  refine zA_aload_n (pc := 30) dX3_init_30 rfl ?_
  refine zA_putr (pc := 31) fdX3_28 hwf hb (by omega) hs rfl (Or.inr ⟨rfl, rfl, rfl, TX3, 6, rfl, flX3_28⟩) dX3_init_31 (fun hwf hs => ?_)
  exact zA_vret (pc := 34) rfl dX3_init_34
theorem cS3_old {k n : Nat} {a : Nat} {t : Nat} {S : Nat → zSh} {q : Nat} (h1 : q ≠ k) (h2 : q < n) : cS3 k n a t S q = S q := by
  unfold cS3
  rw [zupS_ne (by omega), zupS_ne (by omega)]
theorem cS3_wf {k n : Nat} {a : Nat} {t : Nat} {S : Nat → zSh} (hwf : zWf n S) (hb : k < n) (hs : S k = (0, 3, 0, zn)) (ha : a < n) (ht : t < n) : zWf (n + 0) (cS3 k n a t S) := by
  unfold cS3
  have hs9 := hs
  have hwf := zWf_put (i := 0) hwf (by omega) hs9 (show a < _ by omega)
  have hs : _ = _ := zupS_put (i := 0) (x := a) hs9
  have hs9 := hs
  have hwf := zWf_put (i := 1) hwf (by omega) hs9 (show t < _ by omega)
  have hs : _ = _ := zupS_put (i := 1) (x := t) hs9
  exact hwf

theorem dX2_init_0 : decode cX2_init 0 = .ok (.aload_n 0, 1) := by decide +kernel
theorem dX2_init_1 : decode cX2_init 1 = .ok (.invokespecial 3, 3) := by decide +kernel
theorem dX2_init_4 : decode cX2_init 4 = .ok (.aload_n 0, 1) := by decide +kernel
theorem dX2_init_5 : decode cX2_init 5 = .ok (.sipush 360, 3) := by decide +kernel
theorem dX2_init_8 : decode cX2_init 8 = .ok (.newarray .int, 2) := by decide +kernel
theorem dX2_init_10 : decode cX2_init 10 = .ok (.putfield 11, 3) := by decide +kernel
theorem dX2_init_13 : decode cX2_init 13 = .ok (.aload_n 0, 1) := by decide +kernel
theorem dX2_init_14 : decode cX2_init 14 = .ok (.bipush 10, 2) := by decide +kernel
theorem dX2_init_16 : decode cX2_init 16 = .ok (.newarray .int, 2) := by decide +kernel
theorem dX2_init_18 : decode cX2_init 18 = .ok (.putfield 15, 3) := by decide +kernel
theorem dX2_init_21 : decode cX2_init 21 = .ok (.aload_n 0, 1) := by decide +kernel
theorem dX2_init_22 : decode cX2_init 22 = .ok (.sipush 512, 3) := by decide +kernel
theorem dX2_init_25 : decode cX2_init 25 = .ok (.newarray .int, 2) := by decide +kernel
theorem dX2_init_27 : decode cX2_init 27 = .ok (.putfield 18, 3) := by decide +kernel
theorem dX2_init_30 : decode cX2_init 30 = .ok (.aload_n 0, 1) := by decide +kernel
theorem dX2_init_31 : decode cX2_init 31 = .ok (.bipush 10, 2) := by decide +kernel
theorem dX2_init_33 : decode cX2_init 33 = .ok (.newarray .int, 2) := by decide +kernel
theorem dX2_init_35 : decode cX2_init 35 = .ok (.putfield 21, 3) := by decide +kernel
theorem dX2_init_38 : decode cX2_init 38 = .ok (.aload_n 0, 1) := by decide +kernel
theorem dX2_init_39 : decode cX2_init 39 = .ok (.iconst 0, 1) := by decide +kernel
theorem dX2_init_40 : decode cX2_init 40 = .ok (.putfield 24, 3) := by decide +kernel
theorem dX2_init_43 : decode cX2_init 43 = .ok (.aload_n 0, 1) := by decide +kernel
theorem dX2_init_44 : decode cX2_init 44 = .ok (.aload_n 1, 1) := by decide +kernel
theorem dX2_init_45 : decode cX2_init 45 = .ok (.putfield 28, 3) := by decide +kernel
theorem dX2_init_48 : decode cX2_init 48 = .ok (.return_, 1) := by decide +kernel
def cS2 (k n : Nat) (t : Nat) (S : Nat → zSh) : Nat → zSh := (zupS (zupS (zupS (zupS (zupS (zupS (zupS (zupS (zupS S n (1, 0, 360, zn)) k (0, 2, 0, (fun i => if i = 1 then some n else zn i))) (n + 1) (1, 0, 10, zn)) k (0, 2, 0, (fun i => if i = 2 then some (n + 1) else (fun i => if i = 1 then some n else zn i) i))) (n + 2) (1, 0, 512, zn)) k (0, 2, 0, (fun i => if i = 3 then some (n + 2) else (fun i => if i = 2 then some (n + 1) else (fun i => if i = 1 then some n else zn i) i) i))) (n + 3) (1, 0, 10, zn)) k (0, 2, 0, (fun i => if i = 4 then some (n + 3) else (fun i => if i = 3 then some (n + 2) else (fun i => if i = 2 then some (n + 1) else (fun i => if i = 1 then some n else zn i) i) i) i))) k (0, 2, 0, (fun i => if i = 0 then some t else (fun i => if i = 4 then some (n + 3) else (fun i => if i = 3 then some (n + 2) else (fun i => if i = 2 then some (n + 1) else (fun i => if i = 1 then some n else zn i) i) i) i) i)))
def cM2 (k n : Nat) (μ : zMem) : zMem := (zset (zup (zup (zup (zup μ n (fun _ => 0)) (n + 1) (fun _ => 0)) (n + 2) (fun _ => 0)) (n + 3) (fun _ => 0)) k 5 (0 : Int32))
set_option maxHeartbeats 4000000 in
theorem tc2 {k n : Nat} {t : Nat} {S : Nat → zSh} {μ : zMem} (hwf : zWf n S) (hb : k < n) (hs : S k = (0, 2, 0, zn)) (hn : n + 4 ≤ 1000000) (ht : t < n) : zM yX2_init cX2_init 2 none 2 [.ref k, .ref t] n S μ (.inl none, n + 4, cS2 k n t S, cM2 k n μ, 4, 892) := by
  refine zM_of (by decide +kernel) (by simp [Value.category]) (by simp) (Nat.le_of_ble_eq_true rfl) ?_
  show zAW _ _ _ _ _ _ [.ref k, .ref t] _ _ _ _ _
  unfold cS2 cM2
  refine zA_aload_n (pc := 0) dX2_init_0 rfl ?_
  refine zA_objInit (pc := 1) koX2_3 zoi zoc (by decide) (Nat.le_of_ble_eq_true rfl) dX2_init_1 ?_
  refine zA_aload_n (pc := 4) dX2_init_4 rfl ?_
  refine zA_sipush (pc := 5) (360 : Int32) dX2_init_5 (by decide) ?_
  refine zA_newi (pc := 8) (N := 360) (w := (360 : Int32)) hwf hs hb (by omega) (by simp only [List.mem_cons, List.not_mem_nil, or_false, forall_eq_or_imp, forall_eq, ne_eq, zrefEq, reduceCtorEq, not_false_eq_true, and_true, true_and, false_implies, implies_true] <;> omega) (by simp only [List.mem_cons, List.not_mem_nil, or_false, forall_eq_or_imp, forall_eq, ne_eq, zrefEq, reduceCtorEq, not_false_eq_true, and_true, true_and, false_implies, implies_true] <;> omega) zai (by decide) (by decide) (by decide) dX2_init_8 (fun hwf hs => ?_)
  have hb := Nat.lt_succ_of_lt hb
  refine zA_putr (pc := 10) fdX2_11 hwf hb (by omega) hs rfl (Or.inr ⟨rfl, rfl, rfl, TX2, 6, rfl, flX2_11⟩) dX2_init_10 (fun hwf hs => ?_)
  refine zA_aload_n (pc := 13) dX2_init_13 rfl ?_
  refine zA_bipush (pc := 14) (10 : Int32) dX2_init_14 (by decide) ?_
  refine zA_newi (pc := 16) (N := 10) (w := (10 : Int32)) hwf hs hb (by omega) (by simp only [List.mem_cons, List.not_mem_nil, or_false, forall_eq_or_imp, forall_eq, ne_eq, zrefEq, reduceCtorEq, not_false_eq_true, and_true, true_and, false_implies, implies_true] <;> omega) (by simp only [List.mem_cons, List.not_mem_nil, or_false, forall_eq_or_imp, forall_eq, ne_eq, zrefEq, reduceCtorEq, not_false_eq_true, and_true, true_and, false_implies, implies_true] <;> omega) zai (by decide) (by decide) (by decide) dX2_init_16 (fun hwf hs => ?_)
  have hb := Nat.lt_succ_of_lt hb
  refine zA_putr (pc := 18) fdX2_15 hwf hb (by omega) hs rfl (Or.inr ⟨rfl, rfl, rfl, TX2, 6, rfl, flX2_15⟩) dX2_init_18 (fun hwf hs => ?_)
  refine zA_aload_n (pc := 21) dX2_init_21 rfl ?_
  refine zA_sipush (pc := 22) (512 : Int32) dX2_init_22 (by decide) ?_
  refine zA_newi (pc := 25) (N := 512) (w := (512 : Int32)) hwf hs hb (by omega) (by simp only [List.mem_cons, List.not_mem_nil, or_false, forall_eq_or_imp, forall_eq, ne_eq, zrefEq, reduceCtorEq, not_false_eq_true, and_true, true_and, false_implies, implies_true] <;> omega) (by simp only [List.mem_cons, List.not_mem_nil, or_false, forall_eq_or_imp, forall_eq, ne_eq, zrefEq, reduceCtorEq, not_false_eq_true, and_true, true_and, false_implies, implies_true] <;> omega) zai (by decide) (by decide) (by decide) dX2_init_25 (fun hwf hs => ?_)
  have hb := Nat.lt_succ_of_lt hb
  refine zA_putr (pc := 27) fdX2_18 hwf hb (by omega) hs rfl (Or.inr ⟨rfl, rfl, rfl, TX2, 6, rfl, flX2_18⟩) dX2_init_27 (fun hwf hs => ?_)
  refine zA_aload_n (pc := 30) dX2_init_30 rfl ?_
  refine zA_bipush (pc := 31) (10 : Int32) dX2_init_31 (by decide) ?_
  refine zA_newi (pc := 33) (N := 10) (w := (10 : Int32)) hwf hs hb (by omega) (by simp only [List.mem_cons, List.not_mem_nil, or_false, forall_eq_or_imp, forall_eq, ne_eq, zrefEq, reduceCtorEq, not_false_eq_true, and_true, true_and, false_implies, implies_true] <;> omega) (by simp only [List.mem_cons, List.not_mem_nil, or_false, forall_eq_or_imp, forall_eq, ne_eq, zrefEq, reduceCtorEq, not_false_eq_true, and_true, true_and, false_implies, implies_true] <;> omega) zai (by decide) (by decide) (by decide) dX2_init_33 (fun hwf hs => ?_)
  have hb := Nat.lt_succ_of_lt hb
  refine zA_putr (pc := 35) fdX2_21 hwf hb (by omega) hs rfl (Or.inr ⟨rfl, rfl, rfl, TX2, 6, rfl, flX2_21⟩) dX2_init_35 (fun hwf hs => ?_)
  refine zA_aload_n (pc := 38) dX2_init_38 rfl ?_
  refine zA_iconst (pc := 39) (0 : Int32) dX2_init_39 (by decide) ?_
  refine zA_puti (pc := 40) fdX2_24 hb hs rfl rfl dX2_init_40 ?_
  refine zA_aload_n (pc := 43) dX2_init_43 rfl ?_
  refine zA_aload_n (pc := 44) dX2_init_44 rfl ?_
  refine zA_putr (pc := 45) fdX2_28 hwf hb (by omega) hs rfl (Or.inr ⟨rfl, rfl, rfl, TX2, 6, rfl, flX2_28⟩) dX2_init_45 (fun hwf hs => ?_)
  exact zA_vret (pc := 48) rfl dX2_init_48
theorem cS2_old {k n : Nat} {t : Nat} {S : Nat → zSh} {q : Nat} (h1 : q ≠ k) (h2 : q < n) : cS2 k n t S q = S q := by
  unfold cS2
  rw [zupS_ne (by omega), zupS_ne (by omega), zupS_ne (by omega), zupS_ne (by omega), zupS_ne (by omega), zupS_ne (by omega), zupS_ne (by omega), zupS_ne (by omega), zupS_ne (by omega)]
theorem cS2_wf {k n : Nat} {t : Nat} {S : Nat → zSh} (hwf : zWf n S) (hb : k < n) (hs : S k = (0, 2, 0, zn)) (ht : t < n) : zWf (n + 4) (cS2 k n t S) := by
  unfold cS2
  have hwf := zWf_new (sh := (1, 0, 360, zn)) hwf (fun j r h => by cases (show (none : Option Nat) = some r from h))
  have hs := (zupS_ne (k := n) (sh := (1, 0, 360, zn)) (q := k) (by omega)).trans hs
  have hs9 := hs
  have hwf := zWf_put (i := 1) hwf (by omega) hs9 (show n < _ by omega)
  have hs : _ = _ := zupS_put (i := 1) (x := n) hs9
  have hwf := zWf_new (sh := (1, 0, 10, zn)) hwf (fun j r h => by cases (show (none : Option Nat) = some r from h))
  have hs := (zupS_ne (k := (n + 1)) (sh := (1, 0, 10, zn)) (q := k) (by omega)).trans hs
  have hs9 := hs
  have hwf := zWf_put (i := 2) hwf (by omega) hs9 (show (n + 1) < _ by omega)
  have hs : _ = _ := zupS_put (i := 2) (x := (n + 1)) hs9
  have hwf := zWf_new (sh := (1, 0, 512, zn)) hwf (fun j r h => by cases (show (none : Option Nat) = some r from h))
  have hs := (zupS_ne (k := (n + 2)) (sh := (1, 0, 512, zn)) (q := k) (by omega)).trans hs
  have hs9 := hs
  have hwf := zWf_put (i := 3) hwf (by omega) hs9 (show (n + 2) < _ by omega)
  have hs : _ = _ := zupS_put (i := 3) (x := (n + 2)) hs9
  have hwf := zWf_new (sh := (1, 0, 10, zn)) hwf (fun j r h => by cases (show (none : Option Nat) = some r from h))
  have hs := (zupS_ne (k := (n + 3)) (sh := (1, 0, 10, zn)) (q := k) (by omega)).trans hs
  have hs9 := hs
  have hwf := zWf_put (i := 4) hwf (by omega) hs9 (show (n + 3) < _ by omega)
  have hs : _ = _ := zupS_put (i := 4) (x := (n + 3)) hs9
  have hs9 := hs
  have hwf := zWf_put (i := 0) hwf (by omega) hs9 (show t < _ by omega)
  have hs : _ = _ := zupS_put (i := 0) (x := t) hs9
  exact hwf

theorem dX0_init_0 : decode cX0_init 0 = .ok (.aload_n 0, 1) := by decide +kernel
theorem dX0_init_1 : decode cX0_init 1 = .ok (.invokespecial 3, 3) := by decide +kernel
theorem dX0_init_4 : decode cX0_init 4 = .ok (.aload_n 0, 1) := by decide +kernel
theorem dX0_init_5 : decode cX0_init 5 = .ok (.bipush 8, 2) := by decide +kernel
theorem dX0_init_7 : decode cX0_init 7 = .ok (.newarray .int, 2) := by decide +kernel
theorem dX0_init_9 : decode cX0_init 9 = .ok (.putfield 9, 3) := by decide +kernel
theorem dX0_init_12 : decode cX0_init 12 = .ok (.aload_n 0, 1) := by decide +kernel
theorem dX0_init_13 : decode cX0_init 13 = .ok (.sipush 256, 3) := by decide +kernel
theorem dX0_init_16 : decode cX0_init 16 = .ok (.newarray .int, 2) := by decide +kernel
theorem dX0_init_18 : decode cX0_init 18 = .ok (.putfield 15, 3) := by decide +kernel
theorem dX0_init_21 : decode cX0_init 21 = .ok (.aload_n 0, 1) := by decide +kernel
theorem dX0_init_22 : decode cX0_init 22 = .ok (.iconst 0, 1) := by decide +kernel
theorem dX0_init_23 : decode cX0_init 23 = .ok (.putfield 18, 3) := by decide +kernel
theorem dX0_init_26 : decode cX0_init 26 = .ok (.aload_n 0, 1) := by decide +kernel
theorem dX0_init_27 : decode cX0_init 27 = .ok (.aload_n 1, 1) := by decide +kernel
theorem dX0_init_28 : decode cX0_init 28 = .ok (.putfield 22, 3) := by decide +kernel
theorem dX0_init_31 : decode cX0_init 31 = .ok (.return_, 1) := by decide +kernel
def cS0 (k n : Nat) (t : Nat) (S : Nat → zSh) : Nat → zSh := (zupS (zupS (zupS (zupS (zupS S n (1, 0, 8, zn)) k (0, 0, 0, (fun i => if i = 1 then some n else zn i))) (n + 1) (1, 0, 256, zn)) k (0, 0, 0, (fun i => if i = 2 then some (n + 1) else (fun i => if i = 1 then some n else zn i) i))) k (0, 0, 0, (fun i => if i = 0 then some t else (fun i => if i = 2 then some (n + 1) else (fun i => if i = 1 then some n else zn i) i) i)))
def cM0 (k n : Nat) (μ : zMem) : zMem := (zset (zup (zup μ n (fun _ => 0)) (n + 1) (fun _ => 0)) k 3 (0 : Int32))
set_option maxHeartbeats 4000000 in
theorem tc0 {k n : Nat} {t : Nat} {S : Nat → zSh} {μ : zMem} (hwf : zWf n S) (hb : k < n) (hs : S k = (0, 0, 0, zn)) (hn : n + 2 ≤ 1000000) (ht : t < n) : zM yX0_init cX0_init 2 none 2 [.ref k, .ref t] n S μ (.inl none, n + 2, cS0 k n t S, cM0 k n μ, 2, 264) := by
  refine zM_of (by decide +kernel) (by simp [Value.category]) (by simp) (Nat.le_of_ble_eq_true rfl) ?_
  show zAW _ _ _ _ _ _ [.ref k, .ref t] _ _ _ _ _
  unfold cS0 cM0
  refine zA_aload_n (pc := 0) dX0_init_0 rfl ?_
  refine zA_objInit (pc := 1) koX0_3 zoi zoc (by decide) (Nat.le_of_ble_eq_true rfl) dX0_init_1 ?_
  refine zA_aload_n (pc := 4) dX0_init_4 rfl ?_
  refine zA_bipush (pc := 5) (8 : Int32) dX0_init_5 (by decide) ?_
  refine zA_newi (pc := 7) (N := 8) (w := (8 : Int32)) hwf hs hb (by omega) (by simp only [List.mem_cons, List.not_mem_nil, or_false, forall_eq_or_imp, forall_eq, ne_eq, zrefEq, reduceCtorEq, not_false_eq_true, and_true, true_and, false_implies, implies_true] <;> omega) (by simp only [List.mem_cons, List.not_mem_nil, or_false, forall_eq_or_imp, forall_eq, ne_eq, zrefEq, reduceCtorEq, not_false_eq_true, and_true, true_and, false_implies, implies_true] <;> omega) zai (by decide) (by decide) (by decide) dX0_init_7 (fun hwf hs => ?_)
  have hb := Nat.lt_succ_of_lt hb
  refine zA_putr (pc := 9) fdX0_9 hwf hb (by omega) hs rfl (Or.inr ⟨rfl, rfl, rfl, TX0, 4, rfl, flX0_9⟩) dX0_init_9 (fun hwf hs => ?_)
  refine zA_aload_n (pc := 12) dX0_init_12 rfl ?_
  refine zA_sipush (pc := 13) (256 : Int32) dX0_init_13 (by decide) ?_
  refine zA_newi (pc := 16) (N := 256) (w := (256 : Int32)) hwf hs hb (by omega) (by simp only [List.mem_cons, List.not_mem_nil, or_false, forall_eq_or_imp, forall_eq, ne_eq, zrefEq, reduceCtorEq, not_false_eq_true, and_true, true_and, false_implies, implies_true] <;> omega) (by simp only [List.mem_cons, List.not_mem_nil, or_false, forall_eq_or_imp, forall_eq, ne_eq, zrefEq, reduceCtorEq, not_false_eq_true, and_true, true_and, false_implies, implies_true] <;> omega) zai (by decide) (by decide) (by decide) dX0_init_16 (fun hwf hs => ?_)
  have hb := Nat.lt_succ_of_lt hb
  refine zA_putr (pc := 18) fdX0_15 hwf hb (by omega) hs rfl (Or.inr ⟨rfl, rfl, rfl, TX0, 4, rfl, flX0_15⟩) dX0_init_18 (fun hwf hs => ?_)
  refine zA_aload_n (pc := 21) dX0_init_21 rfl ?_
  refine zA_iconst (pc := 22) (0 : Int32) dX0_init_22 (by decide) ?_
  refine zA_puti (pc := 23) fdX0_18 hb hs rfl rfl dX0_init_23 ?_
  refine zA_aload_n (pc := 26) dX0_init_26 rfl ?_
  refine zA_aload_n (pc := 27) dX0_init_27 rfl ?_
  refine zA_putr (pc := 28) fdX0_22 hwf hb (by omega) hs rfl (Or.inr ⟨rfl, rfl, rfl, TX0, 4, rfl, flX0_22⟩) dX0_init_28 (fun hwf hs => ?_)
  exact zA_vret (pc := 31) rfl dX0_init_31
theorem cS0_old {k n : Nat} {t : Nat} {S : Nat → zSh} {q : Nat} (h1 : q ≠ k) (h2 : q < n) : cS0 k n t S q = S q := by
  unfold cS0
  rw [zupS_ne (by omega), zupS_ne (by omega), zupS_ne (by omega), zupS_ne (by omega), zupS_ne (by omega)]
theorem cS0_wf {k n : Nat} {t : Nat} {S : Nat → zSh} (hwf : zWf n S) (hb : k < n) (hs : S k = (0, 0, 0, zn)) (ht : t < n) : zWf (n + 2) (cS0 k n t S) := by
  unfold cS0
  have hwf := zWf_new (sh := (1, 0, 8, zn)) hwf (fun j r h => by cases (show (none : Option Nat) = some r from h))
  have hs := (zupS_ne (k := n) (sh := (1, 0, 8, zn)) (q := k) (by omega)).trans hs
  have hs9 := hs
  have hwf := zWf_put (i := 1) hwf (by omega) hs9 (show n < _ by omega)
  have hs : _ = _ := zupS_put (i := 1) (x := n) hs9
  have hwf := zWf_new (sh := (1, 0, 256, zn)) hwf (fun j r h => by cases (show (none : Option Nat) = some r from h))
  have hs := (zupS_ne (k := (n + 1)) (sh := (1, 0, 256, zn)) (q := k) (by omega)).trans hs
  have hs9 := hs
  have hwf := zWf_put (i := 2) hwf (by omega) hs9 (show (n + 1) < _ by omega)
  have hs : _ = _ := zupS_put (i := 2) (x := (n + 1)) hs9
  have hs9 := hs
  have hwf := zWf_put (i := 0) hwf (by omega) hs9 (show t < _ by omega)
  have hs : _ = _ := zupS_put (i := 0) (x := t) hs9
  exact hwf

theorem dX4_init_0 : decode cX4_init 0 = .ok (.aload_n 0, 1) := by decide +kernel
theorem dX4_init_1 : decode cX4_init 1 = .ok (.invokespecial 3, 3) := by decide +kernel
theorem dX4_init_4 : decode cX4_init 4 = .ok (.aload_n 0, 1) := by decide +kernel
theorem dX4_init_5 : decode cX4_init 5 = .ok (.iconst 0, 1) := by decide +kernel
theorem dX4_init_6 : decode cX4_init 6 = .ok (.putfield 9, 3) := by decide +kernel
theorem dX4_init_9 : decode cX4_init 9 = .ok (.aload_n 0, 1) := by decide +kernel
theorem dX4_init_10 : decode cX4_init 10 = .ok (.iconst 0, 1) := by decide +kernel
theorem dX4_init_11 : decode cX4_init 11 = .ok (.putfield 15, 3) := by decide +kernel
theorem dX4_init_14 : decode cX4_init 14 = .ok (.aload_n 0, 1) := by decide +kernel
theorem dX4_init_15 : decode cX4_init 15 = .ok (.iconst (-1), 1) := by decide +kernel
theorem dX4_init_16 : decode cX4_init 16 = .ok (.putfield 18, 3) := by decide +kernel
theorem dX4_init_19 : decode cX4_init 19 = .ok (.aload_n 0, 1) := by decide +kernel
theorem dX4_init_20 : decode cX4_init 20 = .ok (.iconst (-1), 1) := by decide +kernel
theorem dX4_init_21 : decode cX4_init 21 = .ok (.putfield 21, 3) := by decide +kernel
theorem dX4_init_24 : decode cX4_init 24 = .ok (.aload_n 0, 1) := by decide +kernel
theorem dX4_init_25 : decode cX4_init 25 = .ok (.iconst 0, 1) := by decide +kernel
theorem dX4_init_26 : decode cX4_init 26 = .ok (.putfield 24, 3) := by decide +kernel
theorem dX4_init_29 : decode cX4_init 29 = .ok (.aload_n 0, 1) := by decide +kernel
theorem dX4_init_30 : decode cX4_init 30 = .ok (.iconst (-1), 1) := by decide +kernel
theorem dX4_init_31 : decode cX4_init 31 = .ok (.putfield 27, 3) := by decide +kernel
theorem dX4_init_34 : decode cX4_init 34 = .ok (.aload_n 0, 1) := by decide +kernel
theorem dX4_init_35 : decode cX4_init 35 = .ok (.iconst 0, 1) := by decide +kernel
theorem dX4_init_36 : decode cX4_init 36 = .ok (.putfield 30, 3) := by decide +kernel
theorem dX4_init_39 : decode cX4_init 39 = .ok (.aload_n 0, 1) := by decide +kernel
theorem dX4_init_40 : decode cX4_init 40 = .ok (.iconst 0, 1) := by decide +kernel
theorem dX4_init_41 : decode cX4_init 41 = .ok (.putfield 33, 3) := by decide +kernel
theorem dX4_init_44 : decode cX4_init 44 = .ok (.aload_n 0, 1) := by decide +kernel
theorem dX4_init_45 : decode cX4_init 45 = .ok (.iconst 0, 1) := by decide +kernel
theorem dX4_init_46 : decode cX4_init 46 = .ok (.putfield 36, 3) := by decide +kernel
theorem dX4_init_49 : decode cX4_init 49 = .ok (.aload_n 0, 1) := by decide +kernel
theorem dX4_init_50 : decode cX4_init 50 = .ok (.aload_n 1, 1) := by decide +kernel
theorem dX4_init_51 : decode cX4_init 51 = .ok (.putfield 39, 3) := by decide +kernel
theorem dX4_init_54 : decode cX4_init 54 = .ok (.aload_n 0, 1) := by decide +kernel
theorem dX4_init_55 : decode cX4_init 55 = .ok (.aload_n 2, 1) := by decide +kernel
theorem dX4_init_56 : decode cX4_init 56 = .ok (.putfield 43, 3) := by decide +kernel
theorem dX4_init_59 : decode cX4_init 59 = .ok (.return_, 1) := by decide +kernel
def cS4 (k n : Nat) (t : Nat) (a : Nat) (S : Nat → zSh) : Nat → zSh := (zupS (zupS S k (0, 4, 0, (fun i => if i = 0 then some t else zn i))) k (0, 4, 0, (fun i => if i = 1 then some a else (fun i => if i = 0 then some t else zn i) i)))
def cM4 (k n : Nat) (μ : zMem) : zMem := (zset (zset (zset (zset (zset (zset (zset (zset (zset μ k 2 (0 : Int32)) k 3 (0 : Int32)) k 4 (-1 : Int32)) k 5 (-1 : Int32)) k 6 (0 : Int32)) k 7 (-1 : Int32)) k 8 (0 : Int32)) k 9 (0 : Int32)) k 10 (0 : Int32))
set_option maxHeartbeats 4000000 in
theorem tc4 {k n : Nat} {t : Nat} {a : Nat} {S : Nat → zSh} {μ : zMem} (hwf : zWf n S) (hb : k < n) (hs : S k = (0, 4, 0, zn)) (hn : n + 0 ≤ 1000000) (ht : t < n) (ha : a < n) : zM yX4_init cX4_init 3 none 2 [.ref k, .ref t, .ref a] n S μ (.inl none, n + 0, cS4 k n t a S, cM4 k n μ, 0, 0) := by
  refine zM_of (by decide +kernel) (by simp [Value.category]) (by simp) (Nat.le_of_ble_eq_true rfl) ?_
  show zAW _ _ _ _ _ _ [.ref k, .ref t, .ref a] _ _ _ _ _
  unfold cS4 cM4
  refine zA_aload_n (pc := 0) dX4_init_0 rfl ?_
  refine zA_objInit (pc := 1) koX4_3 zoi zoc (by decide) (Nat.le_of_ble_eq_true rfl) dX4_init_1 ?_
  refine zA_aload_n (pc := 4) dX4_init_4 rfl ?_
  refine zA_iconst (pc := 5) (0 : Int32) dX4_init_5 (by decide) ?_
  refine zA_puti (pc := 6) fdX4_9 hb hs rfl rfl dX4_init_6 ?_
  refine zA_aload_n (pc := 9) dX4_init_9 rfl ?_
  refine zA_iconst (pc := 10) (0 : Int32) dX4_init_10 (by decide) ?_
  refine zA_puti (pc := 11) fdX4_15 hb hs rfl rfl dX4_init_11 ?_
  refine zA_aload_n (pc := 14) dX4_init_14 rfl ?_
  refine zA_iconst (pc := 15) (-1 : Int32) dX4_init_15 (by decide) ?_
  refine zA_puti (pc := 16) fdX4_18 hb hs rfl rfl dX4_init_16 ?_
  refine zA_aload_n (pc := 19) dX4_init_19 rfl ?_
  refine zA_iconst (pc := 20) (-1 : Int32) dX4_init_20 (by decide) ?_
  refine zA_puti (pc := 21) fdX4_21 hb hs rfl rfl dX4_init_21 ?_
  refine zA_aload_n (pc := 24) dX4_init_24 rfl ?_
  refine zA_iconst (pc := 25) (0 : Int32) dX4_init_25 (by decide) ?_
  refine zA_puti (pc := 26) fdX4_24 hb hs rfl rfl dX4_init_26 ?_
  refine zA_aload_n (pc := 29) dX4_init_29 rfl ?_
  refine zA_iconst (pc := 30) (-1 : Int32) dX4_init_30 (by decide) ?_
  refine zA_puti (pc := 31) fdX4_27 hb hs rfl rfl dX4_init_31 ?_
  refine zA_aload_n (pc := 34) dX4_init_34 rfl ?_
  refine zA_iconst (pc := 35) (0 : Int32) dX4_init_35 (by decide) ?_
  refine zA_puti (pc := 36) fdX4_30 hb hs rfl rfl dX4_init_36 ?_
  refine zA_aload_n (pc := 39) dX4_init_39 rfl ?_
  refine zA_iconst (pc := 40) (0 : Int32) dX4_init_40 (by decide) ?_
  refine zA_puti (pc := 41) fdX4_33 hb hs rfl rfl dX4_init_41 ?_
  refine zA_aload_n (pc := 44) dX4_init_44 rfl ?_
  refine zA_iconst (pc := 45) (0 : Int32) dX4_init_45 (by decide) ?_
  refine zA_puti (pc := 46) fdX4_36 hb hs rfl rfl dX4_init_46 ?_
  refine zA_aload_n (pc := 49) dX4_init_49 rfl ?_
  refine zA_aload_n (pc := 50) dX4_init_50 rfl ?_
  refine zA_putr (pc := 51) fdX4_39 hwf hb (by omega) hs rfl (Or.inr ⟨rfl, rfl, rfl, TX4, 11, rfl, flX4_39⟩) dX4_init_51 (fun hwf hs => ?_)
  refine zA_aload_n (pc := 54) dX4_init_54 rfl ?_
  refine zA_aload_n (pc := 55) dX4_init_55 rfl ?_
  refine zA_putr (pc := 56) fdX4_43 hwf hb (by omega) hs rfl (Or.inr ⟨rfl, rfl, rfl, TX4, 11, rfl, flX4_43⟩) dX4_init_56 (fun hwf hs => ?_)
  exact zA_vret (pc := 59) rfl dX4_init_59
theorem cS4_old {k n : Nat} {t : Nat} {a : Nat} {S : Nat → zSh} {q : Nat} (h1 : q ≠ k) (h2 : q < n) : cS4 k n t a S q = S q := by
  unfold cS4
  rw [zupS_ne (by omega), zupS_ne (by omega)]
theorem cS4_wf {k n : Nat} {t : Nat} {a : Nat} {S : Nat → zSh} (hwf : zWf n S) (hb : k < n) (hs : S k = (0, 4, 0, zn)) (ht : t < n) (ha : a < n) : zWf (n + 0) (cS4 k n t a S) := by
  unfold cS4
  have hs9 := hs
  have hwf := zWf_put (i := 0) hwf (by omega) hs9 (show t < _ by omega)
  have hs : _ = _ := zupS_put (i := 0) (x := t) hs9
  have hs9 := hs
  have hwf := zWf_put (i := 1) hwf (by omega) hs9 (show a < _ by omega)
  have hs : _ = _ := zupS_put (i := 1) (x := a) hs9
  exact hwf

theorem dX1_init_0 : decode cX1_init 0 = .ok (.aload_n 0, 1) := by decide +kernel
theorem dX1_init_1 : decode cX1_init 1 = .ok (.invokespecial 5, 3) := by decide +kernel
theorem dX1_init_4 : decode cX1_init 4 = .ok (.aload_n 0, 1) := by decide +kernel
theorem dX1_init_5 : decode cX1_init 5 = .ok (.iconst 4, 1) := by decide +kernel
theorem dX1_init_6 : decode cX1_init 6 = .ok (.newarray .int, 2) := by decide +kernel
theorem dX1_init_8 : decode cX1_init 8 = .ok (.putfield 11, 3) := by decide +kernel
theorem dX1_init_11 : decode cX1_init 11 = .ok (.aload_n 0, 1) := by decide +kernel
theorem dX1_init_12 : decode cX1_init 12 = .ok (.iconst 4, 1) := by decide +kernel
theorem dX1_init_13 : decode cX1_init 13 = .ok (.newarray .int, 2) := by decide +kernel
theorem dX1_init_15 : decode cX1_init 15 = .ok (.putfield 15, 3) := by decide +kernel
theorem dX1_init_18 : decode cX1_init 18 = .ok (.aload_n 0, 1) := by decide +kernel
theorem dX1_init_19 : decode cX1_init 19 = .ok (.iconst 4, 1) := by decide +kernel
theorem dX1_init_20 : decode cX1_init 20 = .ok (.newarray .int, 2) := by decide +kernel
theorem dX1_init_22 : decode cX1_init 22 = .ok (.putfield 18, 3) := by decide +kernel
theorem dX1_init_25 : decode cX1_init 25 = .ok (.aload_n 0, 1) := by decide +kernel
theorem dX1_init_26 : decode cX1_init 26 = .ok (.sipush 6561, 3) := by decide +kernel
theorem dX1_init_29 : decode cX1_init 29 = .ok (.newarray .int, 2) := by decide +kernel
theorem dX1_init_31 : decode cX1_init 31 = .ok (.putfield 21, 3) := by decide +kernel
theorem dX1_init_34 : decode cX1_init 34 = .ok (.aload_n 0, 1) := by decide +kernel
theorem dX1_init_35 : decode cX1_init 35 = .ok (.sipush 6561, 3) := by decide +kernel
theorem dX1_init_38 : decode cX1_init 38 = .ok (.newarray .int, 2) := by decide +kernel
theorem dX1_init_40 : decode cX1_init 40 = .ok (.putfield 24, 3) := by decide +kernel
theorem dX1_init_43 : decode cX1_init 43 = .ok (.aload_n 0, 1) := by decide +kernel
theorem dX1_init_44 : decode cX1_init 44 = .ok (.sipush 6561, 3) := by decide +kernel
theorem dX1_init_47 : decode cX1_init 47 = .ok (.newarray .int, 2) := by decide +kernel
theorem dX1_init_49 : decode cX1_init 49 = .ok (.putfield 27, 3) := by decide +kernel
theorem dX1_init_52 : decode cX1_init 52 = .ok (.aload_n 0, 1) := by decide +kernel
theorem dX1_init_53 : decode cX1_init 53 = .ok (.iconst 0, 1) := by decide +kernel
theorem dX1_init_54 : decode cX1_init 54 = .ok (.putfield 30, 3) := by decide +kernel
theorem dX1_init_57 : decode cX1_init 57 = .ok (.aload_n 0, 1) := by decide +kernel
theorem dX1_init_58 : decode cX1_init 58 = .ok (.iconst 0, 1) := by decide +kernel
theorem dX1_init_59 : decode cX1_init 59 = .ok (.putfield 34, 3) := by decide +kernel
theorem dX1_init_62 : decode cX1_init 62 = .ok (.aload_n 0, 1) := by decide +kernel
theorem dX1_init_63 : decode cX1_init 63 = .ok (.iconst 0, 1) := by decide +kernel
theorem dX1_init_64 : decode cX1_init 64 = .ok (.putfield 37, 3) := by decide +kernel
theorem dX1_init_67 : decode cX1_init 67 = .ok (.aload_n 0, 1) := by decide +kernel
theorem dX1_init_68 : decode cX1_init 68 = .ok (.iconst (-1), 1) := by decide +kernel
theorem dX1_init_69 : decode cX1_init 69 = .ok (.putfield 40, 3) := by decide +kernel
theorem dX1_init_72 : decode cX1_init 72 = .ok (.aload_n 0, 1) := by decide +kernel
theorem dX1_init_73 : decode cX1_init 73 = .ok (.aload_n 1, 1) := by decide +kernel
theorem dX1_init_74 : decode cX1_init 74 = .ok (.putfield 43, 3) := by decide +kernel
theorem dX1_init_77 : decode cX1_init 77 = .ok (.return_, 1) := by decide +kernel
def cS1 (k n : Nat) (t : Nat) (S : Nat → zSh) : Nat → zSh := (zupS (zupS (zupS (zupS (zupS (zupS (zupS (zupS (zupS (zupS (zupS (zupS (zupS S n (1, 0, 4, zn)) k (0, 1, 0, (fun i => if i = 1 then some n else zn i))) (n + 1) (1, 0, 4, zn)) k (0, 1, 0, (fun i => if i = 2 then some (n + 1) else (fun i => if i = 1 then some n else zn i) i))) (n + 2) (1, 0, 4, zn)) k (0, 1, 0, (fun i => if i = 3 then some (n + 2) else (fun i => if i = 2 then some (n + 1) else (fun i => if i = 1 then some n else zn i) i) i))) (n + 3) (1, 0, 6561, zn)) k (0, 1, 0, (fun i => if i = 4 then some (n + 3) else (fun i => if i = 3 then some (n + 2) else (fun i => if i = 2 then some (n + 1) else (fun i => if i = 1 then some n else zn i) i) i) i))) (n + 4) (1, 0, 6561, zn)) k (0, 1, 0, (fun i => if i = 5 then some (n + 4) else (fun i => if i = 4 then some (n + 3) else (fun i => if i = 3 then some (n + 2) else (fun i => if i = 2 then some (n + 1) else (fun i => if i = 1 then some n else zn i) i) i) i) i))) (n + 5) (1, 0, 6561, zn)) k (0, 1, 0, (fun i => if i = 6 then some (n + 5) else (fun i => if i = 5 then some (n + 4) else (fun i => if i = 4 then some (n + 3) else (fun i => if i = 3 then some (n + 2) else (fun i => if i = 2 then some (n + 1) else (fun i => if i = 1 then some n else zn i) i) i) i) i) i))) k (0, 1, 0, (fun i => if i = 0 then some t else (fun i => if i = 6 then some (n + 5) else (fun i => if i = 5 then some (n + 4) else (fun i => if i = 4 then some (n + 3) else (fun i => if i = 3 then some (n + 2) else (fun i => if i = 2 then some (n + 1) else (fun i => if i = 1 then some n else zn i) i) i) i) i) i) i)))
def cM1 (k n : Nat) (μ : zMem) : zMem := (zset (zset (zset (zset (zup (zup (zup (zup (zup (zup μ n (fun _ => 0)) (n + 1) (fun _ => 0)) (n + 2) (fun _ => 0)) (n + 3) (fun _ => 0)) (n + 4) (fun _ => 0)) (n + 5) (fun _ => 0)) k 7 (0 : Int32)) k 8 (0 : Int32)) k 9 (0 : Int32)) k 10 (-1 : Int32))
set_option maxHeartbeats 4000000 in
theorem tc1 {k n : Nat} {t : Nat} {S : Nat → zSh} {μ : zMem} (hwf : zWf n S) (hb : k < n) (hs : S k = (0, 1, 0, zn)) (hn : n + 6 ≤ 1000000) (ht : t < n) : zM yX1_init cX1_init 2 none 2 [.ref k, .ref t] n S μ (.inl none, n + 6, cS1 k n t S, cM1 k n μ, 6, 19695) := by
  refine zM_of (by decide +kernel) (by simp [Value.category]) (by simp) (Nat.le_of_ble_eq_true rfl) ?_
  show zAW _ _ _ _ _ _ [.ref k, .ref t] _ _ _ _ _
  unfold cS1 cM1
  refine zA_aload_n (pc := 0) dX1_init_0 rfl ?_
  refine zA_objInit (pc := 1) koX1_5 zoi zoc (by decide) (Nat.le_of_ble_eq_true rfl) dX1_init_1 ?_
  refine zA_aload_n (pc := 4) dX1_init_4 rfl ?_
  refine zA_iconst (pc := 5) (4 : Int32) dX1_init_5 (by decide) ?_
  refine zA_newi (pc := 6) (N := 4) (w := (4 : Int32)) hwf hs hb (by omega) (by simp only [List.mem_cons, List.not_mem_nil, or_false, forall_eq_or_imp, forall_eq, ne_eq, zrefEq, reduceCtorEq, not_false_eq_true, and_true, true_and, false_implies, implies_true] <;> omega) (by simp only [List.mem_cons, List.not_mem_nil, or_false, forall_eq_or_imp, forall_eq, ne_eq, zrefEq, reduceCtorEq, not_false_eq_true, and_true, true_and, false_implies, implies_true] <;> omega) zai (by decide) (by decide) (by decide) dX1_init_6 (fun hwf hs => ?_)
  have hb := Nat.lt_succ_of_lt hb
  refine zA_putr (pc := 8) fdX1_11 hwf hb (by omega) hs rfl (Or.inr ⟨rfl, rfl, rfl, TX1, 11, rfl, flX1_11⟩) dX1_init_8 (fun hwf hs => ?_)
  refine zA_aload_n (pc := 11) dX1_init_11 rfl ?_
  refine zA_iconst (pc := 12) (4 : Int32) dX1_init_12 (by decide) ?_
  refine zA_newi (pc := 13) (N := 4) (w := (4 : Int32)) hwf hs hb (by omega) (by simp only [List.mem_cons, List.not_mem_nil, or_false, forall_eq_or_imp, forall_eq, ne_eq, zrefEq, reduceCtorEq, not_false_eq_true, and_true, true_and, false_implies, implies_true] <;> omega) (by simp only [List.mem_cons, List.not_mem_nil, or_false, forall_eq_or_imp, forall_eq, ne_eq, zrefEq, reduceCtorEq, not_false_eq_true, and_true, true_and, false_implies, implies_true] <;> omega) zai (by decide) (by decide) (by decide) dX1_init_13 (fun hwf hs => ?_)
  have hb := Nat.lt_succ_of_lt hb
  refine zA_putr (pc := 15) fdX1_15 hwf hb (by omega) hs rfl (Or.inr ⟨rfl, rfl, rfl, TX1, 11, rfl, flX1_15⟩) dX1_init_15 (fun hwf hs => ?_)
  refine zA_aload_n (pc := 18) dX1_init_18 rfl ?_
  refine zA_iconst (pc := 19) (4 : Int32) dX1_init_19 (by decide) ?_
  refine zA_newi (pc := 20) (N := 4) (w := (4 : Int32)) hwf hs hb (by omega) (by simp only [List.mem_cons, List.not_mem_nil, or_false, forall_eq_or_imp, forall_eq, ne_eq, zrefEq, reduceCtorEq, not_false_eq_true, and_true, true_and, false_implies, implies_true] <;> omega) (by simp only [List.mem_cons, List.not_mem_nil, or_false, forall_eq_or_imp, forall_eq, ne_eq, zrefEq, reduceCtorEq, not_false_eq_true, and_true, true_and, false_implies, implies_true] <;> omega) zai (by decide) (by decide) (by decide) dX1_init_20 (fun hwf hs => ?_)
  have hb := Nat.lt_succ_of_lt hb
  refine zA_putr (pc := 22) fdX1_18 hwf hb (by omega) hs rfl (Or.inr ⟨rfl, rfl, rfl, TX1, 11, rfl, flX1_18⟩) dX1_init_22 (fun hwf hs => ?_)
  refine zA_aload_n (pc := 25) dX1_init_25 rfl ?_
  refine zA_sipush (pc := 26) (6561 : Int32) dX1_init_26 (by decide) ?_
  refine zA_newi (pc := 29) (N := 6561) (w := (6561 : Int32)) hwf hs hb (by omega) (by simp only [List.mem_cons, List.not_mem_nil, or_false, forall_eq_or_imp, forall_eq, ne_eq, zrefEq, reduceCtorEq, not_false_eq_true, and_true, true_and, false_implies, implies_true] <;> omega) (by simp only [List.mem_cons, List.not_mem_nil, or_false, forall_eq_or_imp, forall_eq, ne_eq, zrefEq, reduceCtorEq, not_false_eq_true, and_true, true_and, false_implies, implies_true] <;> omega) zai (by decide) (by decide) (by decide) dX1_init_29 (fun hwf hs => ?_)
  have hb := Nat.lt_succ_of_lt hb
  refine zA_putr (pc := 31) fdX1_21 hwf hb (by omega) hs rfl (Or.inr ⟨rfl, rfl, rfl, TX1, 11, rfl, flX1_21⟩) dX1_init_31 (fun hwf hs => ?_)
  refine zA_aload_n (pc := 34) dX1_init_34 rfl ?_
  refine zA_sipush (pc := 35) (6561 : Int32) dX1_init_35 (by decide) ?_
  refine zA_newi (pc := 38) (N := 6561) (w := (6561 : Int32)) hwf hs hb (by omega) (by simp only [List.mem_cons, List.not_mem_nil, or_false, forall_eq_or_imp, forall_eq, ne_eq, zrefEq, reduceCtorEq, not_false_eq_true, and_true, true_and, false_implies, implies_true] <;> omega) (by simp only [List.mem_cons, List.not_mem_nil, or_false, forall_eq_or_imp, forall_eq, ne_eq, zrefEq, reduceCtorEq, not_false_eq_true, and_true, true_and, false_implies, implies_true] <;> omega) zai (by decide) (by decide) (by decide) dX1_init_38 (fun hwf hs => ?_)
  have hb := Nat.lt_succ_of_lt hb
  refine zA_putr (pc := 40) fdX1_24 hwf hb (by omega) hs rfl (Or.inr ⟨rfl, rfl, rfl, TX1, 11, rfl, flX1_24⟩) dX1_init_40 (fun hwf hs => ?_)
  refine zA_aload_n (pc := 43) dX1_init_43 rfl ?_
  refine zA_sipush (pc := 44) (6561 : Int32) dX1_init_44 (by decide) ?_
  refine zA_newi (pc := 47) (N := 6561) (w := (6561 : Int32)) hwf hs hb (by omega) (by simp only [List.mem_cons, List.not_mem_nil, or_false, forall_eq_or_imp, forall_eq, ne_eq, zrefEq, reduceCtorEq, not_false_eq_true, and_true, true_and, false_implies, implies_true] <;> omega) (by simp only [List.mem_cons, List.not_mem_nil, or_false, forall_eq_or_imp, forall_eq, ne_eq, zrefEq, reduceCtorEq, not_false_eq_true, and_true, true_and, false_implies, implies_true] <;> omega) zai (by decide) (by decide) (by decide) dX1_init_47 (fun hwf hs => ?_)
  have hb := Nat.lt_succ_of_lt hb
  refine zA_putr (pc := 49) fdX1_27 hwf hb (by omega) hs rfl (Or.inr ⟨rfl, rfl, rfl, TX1, 11, rfl, flX1_27⟩) dX1_init_49 (fun hwf hs => ?_)
  refine zA_aload_n (pc := 52) dX1_init_52 rfl ?_
  refine zA_iconst (pc := 53) (0 : Int32) dX1_init_53 (by decide) ?_
  refine zA_puti (pc := 54) fdX1_30 hb hs rfl rfl dX1_init_54 ?_
  refine zA_aload_n (pc := 57) dX1_init_57 rfl ?_
  refine zA_iconst (pc := 58) (0 : Int32) dX1_init_58 (by decide) ?_
  refine zA_puti (pc := 59) fdX1_34 hb hs rfl rfl dX1_init_59 ?_
  refine zA_aload_n (pc := 62) dX1_init_62 rfl ?_
  refine zA_iconst (pc := 63) (0 : Int32) dX1_init_63 (by decide) ?_
  refine zA_puti (pc := 64) fdX1_37 hb hs rfl rfl dX1_init_64 ?_
  refine zA_aload_n (pc := 67) dX1_init_67 rfl ?_
  refine zA_iconst (pc := 68) (-1 : Int32) dX1_init_68 (by decide) ?_
  refine zA_puti (pc := 69) fdX1_40 hb hs rfl rfl dX1_init_69 ?_
  refine zA_aload_n (pc := 72) dX1_init_72 rfl ?_
  refine zA_aload_n (pc := 73) dX1_init_73 rfl ?_
  refine zA_putr (pc := 74) fdX1_43 hwf hb (by omega) hs rfl (Or.inr ⟨rfl, rfl, rfl, TX1, 11, rfl, flX1_43⟩) dX1_init_74 (fun hwf hs => ?_)
  exact zA_vret (pc := 77) rfl dX1_init_77
theorem cS1_old {k n : Nat} {t : Nat} {S : Nat → zSh} {q : Nat} (h1 : q ≠ k) (h2 : q < n) : cS1 k n t S q = S q := by
  unfold cS1
  rw [zupS_ne (by omega), zupS_ne (by omega), zupS_ne (by omega), zupS_ne (by omega), zupS_ne (by omega), zupS_ne (by omega), zupS_ne (by omega), zupS_ne (by omega), zupS_ne (by omega), zupS_ne (by omega), zupS_ne (by omega), zupS_ne (by omega), zupS_ne (by omega)]
theorem cS1_wf {k n : Nat} {t : Nat} {S : Nat → zSh} (hwf : zWf n S) (hb : k < n) (hs : S k = (0, 1, 0, zn)) (ht : t < n) : zWf (n + 6) (cS1 k n t S) := by
  unfold cS1
  have hwf := zWf_new (sh := (1, 0, 4, zn)) hwf (fun j r h => by cases (show (none : Option Nat) = some r from h))
  have hs := (zupS_ne (k := n) (sh := (1, 0, 4, zn)) (q := k) (by omega)).trans hs
  have hs9 := hs
  have hwf := zWf_put (i := 1) hwf (by omega) hs9 (show n < _ by omega)
  have hs : _ = _ := zupS_put (i := 1) (x := n) hs9
  have hwf := zWf_new (sh := (1, 0, 4, zn)) hwf (fun j r h => by cases (show (none : Option Nat) = some r from h))
  have hs := (zupS_ne (k := (n + 1)) (sh := (1, 0, 4, zn)) (q := k) (by omega)).trans hs
  have hs9 := hs
  have hwf := zWf_put (i := 2) hwf (by omega) hs9 (show (n + 1) < _ by omega)
  have hs : _ = _ := zupS_put (i := 2) (x := (n + 1)) hs9
  have hwf := zWf_new (sh := (1, 0, 4, zn)) hwf (fun j r h => by cases (show (none : Option Nat) = some r from h))
  have hs := (zupS_ne (k := (n + 2)) (sh := (1, 0, 4, zn)) (q := k) (by omega)).trans hs
  have hs9 := hs
  have hwf := zWf_put (i := 3) hwf (by omega) hs9 (show (n + 2) < _ by omega)
  have hs : _ = _ := zupS_put (i := 3) (x := (n + 2)) hs9
  have hwf := zWf_new (sh := (1, 0, 6561, zn)) hwf (fun j r h => by cases (show (none : Option Nat) = some r from h))
  have hs := (zupS_ne (k := (n + 3)) (sh := (1, 0, 6561, zn)) (q := k) (by omega)).trans hs
  have hs9 := hs
  have hwf := zWf_put (i := 4) hwf (by omega) hs9 (show (n + 3) < _ by omega)
  have hs : _ = _ := zupS_put (i := 4) (x := (n + 3)) hs9
  have hwf := zWf_new (sh := (1, 0, 6561, zn)) hwf (fun j r h => by cases (show (none : Option Nat) = some r from h))
  have hs := (zupS_ne (k := (n + 4)) (sh := (1, 0, 6561, zn)) (q := k) (by omega)).trans hs
  have hs9 := hs
  have hwf := zWf_put (i := 5) hwf (by omega) hs9 (show (n + 4) < _ by omega)
  have hs : _ = _ := zupS_put (i := 5) (x := (n + 4)) hs9
  have hwf := zWf_new (sh := (1, 0, 6561, zn)) hwf (fun j r h => by cases (show (none : Option Nat) = some r from h))
  have hs := (zupS_ne (k := (n + 5)) (sh := (1, 0, 6561, zn)) (q := k) (by omega)).trans hs
  have hs9 := hs
  have hwf := zWf_put (i := 6) hwf (by omega) hs9 (show (n + 5) < _ by omega)
  have hs : _ = _ := zupS_put (i := 6) (x := (n + 5)) hs9
  have hs9 := hs
  have hwf := zWf_put (i := 0) hwf (by omega) hs9 (show t < _ by omega)
  have hs : _ = _ := zupS_put (i := 0) (x := t) hs9
  exact hwf

theorem dX6_init_0 : decode cX6_init 0 = .ok (.aload_n 0, 1) := by decide +kernel
theorem dX6_init_1 : decode cX6_init 1 = .ok (.invokespecial 3, 3) := by decide +kernel
theorem dX6_init_4 : decode cX6_init 4 = .ok (.aload_n 0, 1) := by decide +kernel
theorem dX6_init_5 : decode cX6_init 5 = .ok (.iconst 0, 1) := by decide +kernel
theorem dX6_init_6 : decode cX6_init 6 = .ok (.putfield 9, 3) := by decide +kernel
theorem dX6_init_9 : decode cX6_init 9 = .ok (.aload_n 0, 1) := by decide +kernel
theorem dX6_init_10 : decode cX6_init 10 = .ok (.iconst (-1), 1) := by decide +kernel
theorem dX6_init_11 : decode cX6_init 11 = .ok (.putfield 15, 3) := by decide +kernel
theorem dX6_init_14 : decode cX6_init 14 = .ok (.aload_n 0, 1) := by decide +kernel
theorem dX6_init_15 : decode cX6_init 15 = .ok (.iconst (-1), 1) := by decide +kernel
theorem dX6_init_16 : decode cX6_init 16 = .ok (.putfield 18, 3) := by decide +kernel
theorem dX6_init_19 : decode cX6_init 19 = .ok (.aload_n 0, 1) := by decide +kernel
theorem dX6_init_20 : decode cX6_init 20 = .ok (.aload_n 1, 1) := by decide +kernel
theorem dX6_init_21 : decode cX6_init 21 = .ok (.putfield 21, 3) := by decide +kernel
theorem dX6_init_24 : decode cX6_init 24 = .ok (.aload_n 0, 1) := by decide +kernel
theorem dX6_init_25 : decode cX6_init 25 = .ok (.new 25, 3) := by decide +kernel
theorem dX6_init_28 : decode cX6_init 28 = .ok (.dup, 1) := by decide +kernel
theorem dX6_init_29 : decode cX6_init 29 = .ok (.aload_n 1, 1) := by decide +kernel
theorem dX6_init_30 : decode cX6_init 30 = .ok (.invokespecial 27, 3) := by decide +kernel
theorem dX6_init_33 : decode cX6_init 33 = .ok (.putfield 30, 3) := by decide +kernel
theorem dX6_init_36 : decode cX6_init 36 = .ok (.aload_n 0, 1) := by decide +kernel
theorem dX6_init_37 : decode cX6_init 37 = .ok (.new 25, 3) := by decide +kernel
theorem dX6_init_40 : decode cX6_init 40 = .ok (.dup, 1) := by decide +kernel
theorem dX6_init_41 : decode cX6_init 41 = .ok (.aload_n 1, 1) := by decide +kernel
theorem dX6_init_42 : decode cX6_init 42 = .ok (.invokespecial 27, 3) := by decide +kernel
theorem dX6_init_45 : decode cX6_init 45 = .ok (.putfield 34, 3) := by decide +kernel
theorem dX6_init_48 : decode cX6_init 48 = .ok (.return_, 1) := by decide +kernel
def cS6 (k n : Nat) (t : Nat) (S : Nat → zSh) : Nat → zSh := (zupS (cS5 (n + 5) (n + 6) t (zupS (zupS (cS5 n (n + 1) t (zupS (zupS S k (0, 6, 0, (fun i => if i = 0 then some t else zn i))) n (0, 5, 0, zn))) k (0, 6, 0, (fun i => if i = 1 then some n else (fun i => if i = 0 then some t else zn i) i))) (n + 5) (0, 5, 0, zn))) k (0, 6, 0, (fun i => if i = 2 then some (n + 5) else (fun i => if i = 1 then some n else (fun i => if i = 0 then some t else zn i) i) i)))
def cM6 (k n : Nat) (μ : zMem) : zMem := (cM5 (n + 5) (n + 6) (zup (cM5 n (n + 1) (zup (zset (zset (zset μ k 3 (0 : Int32)) k 4 (-1 : Int32)) k 5 (-1 : Int32)) n (fun _ => 0))) (n + 5) (fun _ => 0)))
set_option maxHeartbeats 4000000 in
theorem tc6 {k n : Nat} {t : Nat} {S : Nat → zSh} {μ : zMem} (hwf : zWf n S) (hb : k < n) (hs : S k = (0, 6, 0, zn)) (hn : n + 10 ≤ 1000000) (ht : t < n) : zM yX6_init cX6_init 2 none 3 [.ref k, .ref t] n S μ (.inl none, n + 10, cS6 k n t S, cM6 k n μ, 10, 190) := by
  refine zM_of (by decide +kernel) (by simp [Value.category]) (by simp) (Nat.le_of_ble_eq_true rfl) ?_
  show zAW _ _ _ _ _ _ [.ref k, .ref t] _ _ _ _ _
  unfold cS6 cM6
  refine zA_aload_n (pc := 0) dX6_init_0 rfl ?_
  refine zA_objInit (pc := 1) koX6_3 zoi zoc (by decide) (Nat.le_of_ble_eq_true rfl) dX6_init_1 ?_
  refine zA_aload_n (pc := 4) dX6_init_4 rfl ?_
  refine zA_iconst (pc := 5) (0 : Int32) dX6_init_5 (by decide) ?_
  refine zA_puti (pc := 6) fdX6_9 hb hs rfl rfl dX6_init_6 ?_
  refine zA_aload_n (pc := 9) dX6_init_9 rfl ?_
  refine zA_iconst (pc := 10) (-1 : Int32) dX6_init_10 (by decide) ?_
  refine zA_puti (pc := 11) fdX6_15 hb hs rfl rfl dX6_init_11 ?_
  refine zA_aload_n (pc := 14) dX6_init_14 rfl ?_
  refine zA_iconst (pc := 15) (-1 : Int32) dX6_init_15 (by decide) ?_
  refine zA_puti (pc := 16) fdX6_18 hb hs rfl rfl dX6_init_16 ?_
  refine zA_aload_n (pc := 19) dX6_init_19 rfl ?_
  refine zA_aload_n (pc := 20) dX6_init_20 rfl ?_
  refine zA_putr (pc := 21) fdX6_21 hwf hb (by omega) hs rfl (Or.inr ⟨rfl, rfl, rfl, TX6, 6, rfl, flX6_21⟩) dX6_init_21 (fun hwf hs => ?_)
  refine zA_aload_n (pc := 24) dX6_init_24 rfl ?_
  refine zA_new (pc := 25) (ci := 5) (CC := RX5) (T := TX5) (N := 11) hwf hs hb (by omega) (by simp only [List.mem_cons, List.not_mem_nil, or_false, forall_eq_or_imp, forall_eq, ne_eq, zrefEq, reduceCtorEq, not_false_eq_true, and_true, true_and, false_implies, implies_true] <;> omega) (by simp only [List.mem_cons, List.not_mem_nil, or_false, forall_eq_or_imp, forall_eq, ne_eq, zrefEq, reduceCtorEq, not_false_eq_true, and_true, true_and, false_implies, implies_true] <;> omega) rfl rfl zu_5 tyX5_ok knX6_25 zin_5 zii_5 zdf_5 dX6_init_25 (fun hwf hs => ?_)
  have hb := Nat.lt_succ_of_lt hb
  refine zA_dup (pc := 28) dX6_init_28 rfl ?_
  refine zA_aload_n (pc := 29) dX6_init_29 rfl ?_
  refine zA_callI (pc := 30) (b := n) (As := [.ref t]) kiX6_27 zin5 rfl (tc5 hwf (by omega) zupS_self (by omega) (by omega)) (by decide) rfl rfl (Nat.le_of_ble_eq_true rfl) (by omega) (by omega) (by simp only [List.mem_cons, List.not_mem_nil, or_false, forall_eq_or_imp, forall_eq, zltEq, reduceCtorEq, false_implies, implies_true, and_true, true_and] <;> omega) (by simp only [List.mem_cons, List.not_mem_nil, or_false, forall_eq_or_imp, forall_eq, zltEq, reduceCtorEq, false_implies, implies_true, and_true, true_and] <;> omega) dX6_init_30 ?_
  have hs := (cS5_old (k := n) (n := (n + 1)) (t := t) (q := k) (by omega) (by omega)).trans hs
  have hwf := cS5_wf (k := n) (n := (n + 1)) (t := t) hwf (by omega) zupS_self (by omega)
  have hb : k < n + 5 := by omega
  refine zA_putr (pc := 33) fdX6_30 hwf hb (by omega) hs rfl (Or.inr ⟨rfl, rfl, rfl, TX6, 6, rfl, flX6_30⟩) dX6_init_33 (fun hwf hs => ?_)
  refine zA_aload_n (pc := 36) dX6_init_36 rfl ?_
  refine zA_new (pc := 37) (ci := 5) (CC := RX5) (T := TX5) (N := 11) hwf hs hb (by omega) (by simp only [List.mem_cons, List.not_mem_nil, or_false, forall_eq_or_imp, forall_eq, ne_eq, zrefEq, reduceCtorEq, not_false_eq_true, and_true, true_and, false_implies, implies_true] <;> omega) (by simp only [List.mem_cons, List.not_mem_nil, or_false, forall_eq_or_imp, forall_eq, ne_eq, zrefEq, reduceCtorEq, not_false_eq_true, and_true, true_and, false_implies, implies_true] <;> omega) rfl rfl zu_5 tyX5_ok knX6_25 zin_5 zii_5 zdf_5 dX6_init_37 (fun hwf hs => ?_)
  have hb := Nat.lt_succ_of_lt hb
  refine zA_dup (pc := 40) dX6_init_40 rfl ?_
  refine zA_aload_n (pc := 41) dX6_init_41 rfl ?_
  refine zA_callI (pc := 42) (b := (n + 5)) (As := [.ref t]) kiX6_27 zin5 rfl (tc5 hwf (by omega) zupS_self (by omega) (by omega)) (by decide) rfl rfl (Nat.le_of_ble_eq_true rfl) (by omega) (by omega) (by simp only [List.mem_cons, List.not_mem_nil, or_false, forall_eq_or_imp, forall_eq, zltEq, reduceCtorEq, false_implies, implies_true, and_true, true_and] <;> omega) (by simp only [List.mem_cons, List.not_mem_nil, or_false, forall_eq_or_imp, forall_eq, zltEq, reduceCtorEq, false_implies, implies_true, and_true, true_and] <;> omega) dX6_init_42 ?_
  have hs := (cS5_old (k := (n + 5)) (n := (n + 6)) (t := t) (q := k) (by omega) (by omega)).trans hs
  have hwf := cS5_wf (k := (n + 5)) (n := (n + 6)) (t := t) hwf (by omega) zupS_self (by omega)
  have hb : k < n + 10 := by omega
  refine zA_putr (pc := 45) fdX6_34 hwf hb (by omega) hs rfl (Or.inr ⟨rfl, rfl, rfl, TX6, 6, rfl, flX6_34⟩) dX6_init_45 (fun hwf hs => ?_)
  exact zA_vret (pc := 48) rfl dX6_init_48
theorem cS6_old {k n : Nat} {t : Nat} {S : Nat → zSh} {q : Nat} (h1 : q ≠ k) (h2 : q < n) : cS6 k n t S q = S q := by
  unfold cS6
  rw [zupS_ne (by omega), cS5_old (by omega) (by omega), zupS_ne (by omega), zupS_ne (by omega), cS5_old (by omega) (by omega), zupS_ne (by omega), zupS_ne (by omega)]
theorem cS6_wf {k n : Nat} {t : Nat} {S : Nat → zSh} (hwf : zWf n S) (hb : k < n) (hs : S k = (0, 6, 0, zn)) (ht : t < n) : zWf (n + 10) (cS6 k n t S) := by
  unfold cS6
  have hs9 := hs
  have hwf := zWf_put (i := 0) hwf (by omega) hs9 (show t < _ by omega)
  have hs : _ = _ := zupS_put (i := 0) (x := t) hs9
  have hwf := zWf_new (sh := (0, 5, 0, zn)) hwf (fun j r h => by cases (show (none : Option Nat) = some r from h))
  have hs := (zupS_ne (k := n) (sh := (0, 5, 0, zn)) (q := k) (by omega)).trans hs
  have hwf := cS5_wf (k := n) (n := (n + 1)) (t := t) hwf (by omega) zupS_self (by omega)
  have hs := (cS5_old (k := n) (n := (n + 1)) (t := t) (q := k) (by omega) (by omega)).trans hs
  have hs9 := hs
  have hwf := zWf_put (i := 1) hwf (by omega) hs9 (show n < _ by omega)
  have hs : _ = _ := zupS_put (i := 1) (x := n) hs9
  have hwf := zWf_new (sh := (0, 5, 0, zn)) hwf (fun j r h => by cases (show (none : Option Nat) = some r from h))
  have hs := (zupS_ne (k := (n + 5)) (sh := (0, 5, 0, zn)) (q := k) (by omega)).trans hs
  have hwf := cS5_wf (k := (n + 5)) (n := (n + 6)) (t := t) hwf (by omega) zupS_self (by omega)
  have hs := (cS5_old (k := (n + 5)) (n := (n + 6)) (t := t) (q := k) (by omega) (by omega)).trans hs
  have hs9 := hs
  have hwf := zWf_put (i := 2) hwf (by omega) hs9 (show (n + 5) < _ by omega)
  have hs : _ = _ := zupS_put (i := 2) (x := (n + 5)) hs9
  exact hwf
