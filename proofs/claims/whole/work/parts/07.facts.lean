theorem lw_in {w : Cond} (h : w ∈ lw_tbl) (hg : goodWord w = true) : w ∈ lw_tb := List.mem_filter.mpr ⟨h, hg⟩
theorem tb_1 : ∀ w ∈ tables_1_1, w ∈ lw_tbl := fun _ h => List.mem_append_right _ (List.mem_append_left _ h)
theorem tb_2 : ∀ w ∈ tables_1_2, w ∈ lw_tbl := fun _ h => List.mem_append_right _ (List.mem_append_right _ (List.mem_append_left _ h))
theorem tb_3 : ∀ w ∈ tables_1_3, w ∈ lw_tbl := fun _ h => List.mem_append_right _ (List.mem_append_right _ (List.mem_append_right _ (List.mem_append_left _ h)))
theorem tb_4 : ∀ w ∈ tables_1_4, w ∈ lw_tbl := fun _ h => List.mem_append_right _ (List.mem_append_right _ (List.mem_append_right _ (List.mem_append_right _ (List.mem_append_left _ h))))
theorem tb_5 : ∀ w ∈ tables_1_5, w ∈ lw_tbl := fun _ h => List.mem_append_right _ (List.mem_append_right _ (List.mem_append_right _ (List.mem_append_right _ (List.mem_append_right _ (List.mem_append_left _ h)))))
theorem tb_6 : ∀ w ∈ tables_1_6, w ∈ lw_tbl := fun _ h => List.mem_append_right _ (List.mem_append_right _ (List.mem_append_right _ (List.mem_append_right _ (List.mem_append_right _ (List.mem_append_right _ (List.mem_append_left _ h))))))
theorem tb_7 : ∀ w ∈ tables_1_7, w ∈ lw_tbl := fun _ h => List.mem_append_right _ (List.mem_append_right _ (List.mem_append_right _ (List.mem_append_right _ (List.mem_append_right _ (List.mem_append_right _ (List.mem_append_right _ (List.mem_append_left _ h)))))))
theorem tb_8 : ∀ w ∈ tables_1_8, w ∈ lw_tbl := fun _ h => List.mem_append_right _ (List.mem_append_right _ (List.mem_append_right _ (List.mem_append_right _ (List.mem_append_right _ (List.mem_append_right _ (List.mem_append_right _ (List.mem_append_right _ (List.mem_append_left _ h))))))))
theorem tb_9 : ∀ w ∈ tables_1_9, w ∈ lw_tbl := fun _ h => List.mem_append_right _ (List.mem_append_right _ (List.mem_append_right _ (List.mem_append_right _ (List.mem_append_right _ (List.mem_append_right _ (List.mem_append_right _ (List.mem_append_right _ (List.mem_append_right _ (h)))))))))
theorem gwX0 : ∀ w ∈ u_ws RX0 TX0 10, w ∈ lw_tb := lw_all inX0 (by decide +kernel)
theorem gwX1 : ∀ w ∈ u_ws RX1 TX1 7, w ∈ lw_tb := lw_all inX1 (by decide +kernel)
theorem gwX2 : ∀ w ∈ u_ws RX2 TX2 10, w ∈ lw_tb := lw_all inX2 (by decide +kernel)
theorem gwX3 : ∀ w ∈ u_ws RX3 TX3 10, w ∈ lw_tb := lw_all inX3 (by decide +kernel)
theorem gwX4 : ∀ w ∈ u_ws RX4 TX4 8, w ∈ lw_tb := lw_all inX4 (by decide +kernel)
theorem gwX5 : ∀ w ∈ u_ws RX5 TX5 12, w ∈ lw_tb := lw_all inX5 (by decide +kernel)
theorem gwX6 : ∀ w ∈ u_ws RX6 TX6 17, w ∈ lw_tb := lw_all inX6 (by decide +kernel)
theorem gwX7 : ∀ w ∈ u_ws RX7 TX7 4, w ∈ lw_tb := lw_all inX7 (by decide +kernel)
theorem gwX8 : ∀ w ∈ u_ws RX8 TX8 14, w ∈ lw_tb := lw_all inX8 (by decide +kernel)
theorem gwX9 : ∀ w ∈ u_ws RX9 TX9 80, w ∈ lw_tb := lw_all inX9 (by decide +kernel)
theorem f_X1_9 : wFG RX1 9 1 0 0 := ⟨RX1, TX1, 7, rfl, rfl, by decide, by decide, rfl, lw_in (tb_1 _ (List.mem_of_getElem? (i := 43) rfl)) rfl, gwX1⟩
theorem f_X8_377 : wFG RX8 377 1 0 0 := ⟨RX1, TX1, 7, rfl, rfl, by decide, by decide, rfl, lw_in (tb_1 _ (List.mem_of_getElem? (i := 44) rfl)) rfl, gwX1⟩
theorem f_X1_15 : wFG RX1 15 1 1 2 := ⟨RX1, TX1, 7, rfl, rfl, by decide, by decide, rfl, lw_in (tb_1 _ (List.mem_of_getElem? (i := 45) rfl)) rfl, gwX1⟩
theorem f_X1_19 : wFG RX1 19 1 2 2 := ⟨RX1, TX1, 7, rfl, rfl, by decide, by decide, rfl, lw_in (tb_1 _ (List.mem_of_getElem? (i := 46) rfl)) rfl, gwX1⟩
theorem f_X1_23 : wFG RX1 23 1 3 2 := ⟨RX1, TX1, 7, rfl, rfl, by decide, by decide, rfl, lw_in (tb_1 _ (List.mem_of_getElem? (i := 47) rfl)) rfl, gwX1⟩
theorem f_X1_26 : wFG RX1 26 1 4 2 := ⟨RX1, TX1, 7, rfl, rfl, by decide, by decide, rfl, lw_in (tb_1 _ (List.mem_of_getElem? (i := 48) rfl)) rfl, gwX1⟩
theorem f_X1_29 : wFG RX1 29 1 5 2 := ⟨RX1, TX1, 7, rfl, rfl, by decide, by decide, rfl, lw_in (tb_1 _ (List.mem_of_getElem? (i := 49) rfl)) rfl, gwX1⟩
theorem f_X1_32 : wFG RX1 32 1 6 2 := ⟨RX1, TX1, 7, rfl, rfl, by decide, by decide, rfl, lw_in (tb_1 _ (List.mem_of_getElem? (i := 50) rfl)) rfl, gwX1⟩
theorem f_X6_9 : wFG RX6 9 6 0 0 := ⟨RX6, TX6, 17, rfl, rfl, by decide, by decide, rfl, lw_in (tb_1 _ (List.mem_of_getElem? (i := 70) rfl)) rfl, gwX6⟩
theorem f_X8_102 : wFG RX8 102 6 0 0 := ⟨RX6, TX6, 17, rfl, rfl, by decide, by decide, rfl, lw_in (tb_1 _ (List.mem_of_getElem? (i := 71) rfl)) rfl, gwX6⟩
theorem f_X2_84 : wFG RX2 84 6 0 0 := ⟨RX6, TX6, 17, rfl, rfl, by decide, by decide, rfl, lw_in (tb_1 _ (List.mem_of_getElem? (i := 72) rfl)) rfl, gwX6⟩
theorem f_X6_15 : wFG RX6 15 6 1 0 := ⟨RX6, TX6, 17, rfl, rfl, by decide, by decide, rfl, lw_in (tb_1 _ (List.mem_of_getElem? (i := 73) rfl)) rfl, gwX6⟩
theorem f_X2_90 : wFG RX2 90 6 1 0 := ⟨RX6, TX6, 17, rfl, rfl, by decide, by decide, rfl, lw_in (tb_1 _ (List.mem_of_getElem? (i := 74) rfl)) rfl, gwX6⟩
theorem f_X0_78 : wFG RX0 78 6 1 0 := ⟨RX6, TX6, 17, rfl, rfl, by decide, by decide, rfl, lw_in (tb_1 _ (List.mem_of_getElem? (i := 75) rfl)) rfl, gwX6⟩
theorem f_X8_235 : wFG RX8 235 6 1 0 := ⟨RX6, TX6, 17, rfl, rfl, by decide, by decide, rfl, lw_in (tb_1 _ (List.mem_of_getElem? (i := 76) rfl)) rfl, gwX6⟩
theorem f_X6_18 : wFG RX6 18 6 2 0 := ⟨RX6, TX6, 17, rfl, rfl, by decide, by decide, rfl, lw_in (tb_1 _ (List.mem_of_getElem? (i := 77) rfl)) rfl, gwX6⟩
theorem f_X2_119 : wFG RX2 119 6 2 0 := ⟨RX6, TX6, 17, rfl, rfl, by decide, by decide, rfl, lw_in (tb_1 _ (List.mem_of_getElem? (i := 78) rfl)) rfl, gwX6⟩
theorem f_X0_90 : wFG RX0 90 6 2 0 := ⟨RX6, TX6, 17, rfl, rfl, by decide, by decide, rfl, lw_in (tb_1 _ (List.mem_of_getElem? (i := 79) rfl)) rfl, gwX6⟩
theorem f_X8_303 : wFG RX8 303 6 2 0 := ⟨RX6, TX6, 17, rfl, rfl, by decide, by decide, rfl, lw_in (tb_1 _ (List.mem_of_getElem? (i := 80) rfl)) rfl, gwX6⟩
theorem f_X6_21 : wFG RX6 21 6 3 0 := ⟨RX6, TX6, 17, rfl, rfl, by decide, by decide, rfl, lw_in (tb_1 _ (List.mem_of_getElem? (i := 81) rfl)) rfl, gwX6⟩
theorem f_X2_134 : wFG RX2 134 6 3 0 := ⟨RX6, TX6, 17, rfl, rfl, by decide, by decide, rfl, lw_in (tb_1 _ (List.mem_of_getElem? (i := 82) rfl)) rfl, gwX6⟩
theorem f_X8_370 : wFG RX8 370 6 3 0 := ⟨RX6, TX6, 17, rfl, rfl, by decide, by decide, rfl, lw_in (tb_1 _ (List.mem_of_getElem? (i := 83) rfl)) rfl, gwX6⟩
theorem f_X6_24 : wFG RX6 24 6 4 0 := ⟨RX6, TX6, 17, rfl, rfl, by decide, by decide, rfl, lw_in (tb_1 _ (List.mem_of_getElem? (i := 84) rfl)) rfl, gwX6⟩
theorem f_X2_147 : wFG RX2 147 6 4 0 := ⟨RX6, TX6, 17, rfl, rfl, by decide, by decide, rfl, lw_in (tb_1 _ (List.mem_of_getElem? (i := 85) rfl)) rfl, gwX6⟩
theorem f_X0_110 : wFG RX0 110 6 4 0 := ⟨RX6, TX6, 17, rfl, rfl, by decide, by decide, rfl, lw_in (tb_1 _ (List.mem_of_getElem? (i := 86) rfl)) rfl, gwX6⟩
theorem f_X6_27 : wFG RX6 27 6 5 0 := ⟨RX6, TX6, 17, rfl, rfl, by decide, by decide, rfl, lw_in (tb_1 _ (List.mem_of_getElem? (i := 87) rfl)) rfl, gwX6⟩
theorem f_X2_150 : wFG RX2 150 6 5 0 := ⟨RX6, TX6, 17, rfl, rfl, by decide, by decide, rfl, lw_in (tb_1 _ (List.mem_of_getElem? (i := 88) rfl)) rfl, gwX6⟩
theorem f_X0_206 : wFG RX0 206 6 5 0 := ⟨RX6, TX6, 17, rfl, rfl, by decide, by decide, rfl, lw_in (tb_1 _ (List.mem_of_getElem? (i := 89) rfl)) rfl, gwX6⟩
theorem f_X8_291 : wFG RX8 291 6 5 0 := ⟨RX6, TX6, 17, rfl, rfl, by decide, by decide, rfl, lw_in (tb_1 _ (List.mem_of_getElem? (i := 90) rfl)) rfl, gwX6⟩
theorem f_X6_30 : wFG RX6 30 6 6 0 := ⟨RX6, TX6, 17, rfl, rfl, by decide, by decide, rfl, lw_in (tb_1 _ (List.mem_of_getElem? (i := 91) rfl)) rfl, gwX6⟩
theorem f_X3_43 : wFG RX3 43 6 6 0 := ⟨RX6, TX6, 17, rfl, rfl, by decide, by decide, rfl, lw_in (tb_1 _ (List.mem_of_getElem? (i := 92) rfl)) rfl, gwX6⟩
theorem f_X2_154 : wFG RX2 154 6 6 0 := ⟨RX6, TX6, 17, rfl, rfl, by decide, by decide, rfl, lw_in (tb_1 _ (List.mem_of_getElem? (i := 93) rfl)) rfl, gwX6⟩
theorem f_X6_33 : wFG RX6 33 6 7 2 := ⟨RX6, TX6, 17, rfl, rfl, by decide, by decide, rfl, lw_in (tb_1 _ (List.mem_of_getElem? (i := 94) rfl)) rfl, gwX6⟩
theorem f_X2_93 : wFG RX2 93 6 7 2 := ⟨RX6, TX6, 17, rfl, rfl, by decide, by decide, rfl, lw_in (tb_1 _ (List.mem_of_getElem? (i := 95) rfl)) rfl, gwX6⟩
theorem f_X6_37 : wFG RX6 37 6 8 2 := ⟨RX6, TX6, 17, rfl, rfl, by decide, by decide, rfl, lw_in (tb_1 _ (List.mem_of_getElem? (i := 96) rfl)) rfl, gwX6⟩
theorem f_X3_48 : wFG RX3 48 6 8 2 := ⟨RX6, TX6, 17, rfl, rfl, by decide, by decide, rfl, lw_in (tb_1 _ (List.mem_of_getElem? (i := 97) rfl)) rfl, gwX6⟩
theorem f_X2_106 : wFG RX2 106 6 8 2 := ⟨RX6, TX6, 17, rfl, rfl, by decide, by decide, rfl, lw_in (tb_1 _ (List.mem_of_getElem? (i := 98) rfl)) rfl, gwX6⟩
theorem f_X6_40 : wFG RX6 40 6 9 2 := ⟨RX6, TX6, 17, rfl, rfl, by decide, by decide, rfl, lw_in (tb_1 _ (List.mem_of_getElem? (i := 99) rfl)) rfl, gwX6⟩
theorem f_X3_49 : wFG RX3 49 6 9 2 := ⟨RX6, TX6, 17, rfl, rfl, by decide, by decide, rfl, lw_in (tb_1 _ (List.mem_of_getElem? (i := 100) rfl)) rfl, gwX6⟩
theorem f_X2_113 : wFG RX2 113 6 9 2 := ⟨RX6, TX6, 17, rfl, rfl, by decide, by decide, rfl, lw_in (tb_1 _ (List.mem_of_getElem? (i := 101) rfl)) rfl, gwX6⟩
theorem f_X6_43 : wFG RX6 43 6 10 2 := ⟨RX6, TX6, 17, rfl, rfl, by decide, by decide, rfl, lw_in (tb_1 _ (List.mem_of_getElem? (i := 102) rfl)) rfl, gwX6⟩
theorem f_X2_116 : wFG RX2 116 6 10 2 := ⟨RX6, TX6, 17, rfl, rfl, by decide, by decide, rfl, lw_in (tb_1 _ (List.mem_of_getElem? (i := 103) rfl)) rfl, gwX6⟩
theorem f_X8_135 : wFG RX8 135 6 10 2 := ⟨RX6, TX6, 17, rfl, rfl, by decide, by decide, rfl, lw_in (tb_1 _ (List.mem_of_getElem? (i := 104) rfl)) rfl, gwX6⟩
theorem f_X0_134 : wFG RX0 134 6 10 2 := ⟨RX6, TX6, 17, rfl, rfl, by decide, by decide, rfl, lw_in (tb_1 _ (List.mem_of_getElem? (i := 105) rfl)) rfl, gwX6⟩
theorem f_X6_46 : wFG RX6 46 6 11 2 := ⟨RX6, TX6, 17, rfl, rfl, by decide, by decide, rfl, lw_in (tb_1 _ (List.mem_of_getElem? (i := 106) rfl)) rfl, gwX6⟩
theorem f_X2_122 : wFG RX2 122 6 11 2 := ⟨RX6, TX6, 17, rfl, rfl, by decide, by decide, rfl, lw_in (tb_1 _ (List.mem_of_getElem? (i := 107) rfl)) rfl, gwX6⟩
theorem f_X6_49 : wFG RX6 49 6 12 2 := ⟨RX6, TX6, 17, rfl, rfl, by decide, by decide, rfl, lw_in (tb_1 _ (List.mem_of_getElem? (i := 108) rfl)) rfl, gwX6⟩
theorem f_X2_128 : wFG RX2 128 6 12 2 := ⟨RX6, TX6, 17, rfl, rfl, by decide, by decide, rfl, lw_in (tb_1 _ (List.mem_of_getElem? (i := 109) rfl)) rfl, gwX6⟩
theorem f_X8_163 : wFG RX8 163 6 12 2 := ⟨RX6, TX6, 17, rfl, rfl, by decide, by decide, rfl, lw_in (tb_1 _ (List.mem_of_getElem? (i := 110) rfl)) rfl, gwX6⟩
theorem f_X0_155 : wFG RX0 155 6 12 2 := ⟨RX6, TX6, 17, rfl, rfl, by decide, by decide, rfl, lw_in (tb_1 _ (List.mem_of_getElem? (i := 111) rfl)) rfl, gwX6⟩
theorem f_X6_52 : wFG RX6 52 6 13 2 := ⟨RX6, TX6, 17, rfl, rfl, by decide, by decide, rfl, lw_in (tb_1 _ (List.mem_of_getElem? (i := 112) rfl)) rfl, gwX6⟩
theorem f_X2_131 : wFG RX2 131 6 13 2 := ⟨RX6, TX6, 17, rfl, rfl, by decide, by decide, rfl, lw_in (tb_1 _ (List.mem_of_getElem? (i := 113) rfl)) rfl, gwX6⟩
theorem f_X8_166 : wFG RX8 166 6 13 2 := ⟨RX6, TX6, 17, rfl, rfl, by decide, by decide, rfl, lw_in (tb_1 _ (List.mem_of_getElem? (i := 114) rfl)) rfl, gwX6⟩
theorem f_X0_169 : wFG RX0 169 6 13 2 := ⟨RX6, TX6, 17, rfl, rfl, by decide, by decide, rfl, lw_in (tb_1 _ (List.mem_of_getElem? (i := 115) rfl)) rfl, gwX6⟩
theorem f_X6_55 : wFG RX6 55 6 14 2 := ⟨RX6, TX6, 17, rfl, rfl, by decide, by decide, rfl, lw_in (tb_1 _ (List.mem_of_getElem? (i := 116) rfl)) rfl, gwX6⟩
theorem f_X2_137 : wFG RX2 137 6 14 2 := ⟨RX6, TX6, 17, rfl, rfl, by decide, by decide, rfl, lw_in (tb_1 _ (List.mem_of_getElem? (i := 117) rfl)) rfl, gwX6⟩
theorem f_X6_58 : wFG RX6 58 6 15 2 := ⟨RX6, TX6, 17, rfl, rfl, by decide, by decide, rfl, lw_in (tb_1 _ (List.mem_of_getElem? (i := 118) rfl)) rfl, gwX6⟩
theorem f_X2_144 : wFG RX2 144 6 15 2 := ⟨RX6, TX6, 17, rfl, rfl, by decide, by decide, rfl, lw_in (tb_1 _ (List.mem_of_getElem? (i := 119) rfl)) rfl, gwX6⟩
theorem f_X6_64 : wFG RX6 64 6 16 2 := ⟨RX6, TX6, 17, rfl, rfl, by decide, by decide, rfl, lw_in (tb_1 _ (List.mem_of_getElem? (i := 120) rfl)) rfl, gwX6⟩
theorem f_X2_157 : wFG RX2 157 6 16 2 := ⟨RX6, TX6, 17, rfl, rfl, by decide, by decide, rfl, lw_in (tb_1 _ (List.mem_of_getElem? (i := 121) rfl)) rfl, gwX6⟩
theorem f_X0_116 : wFG RX0 116 6 16 2 := ⟨RX6, TX6, 17, rfl, rfl, by decide, by decide, rfl, lw_in (tb_1 _ (List.mem_of_getElem? (i := 122) rfl)) rfl, gwX6⟩
theorem f_X8_373 : wFG RX8 373 6 16 2 := ⟨RX6, TX6, 17, rfl, rfl, by decide, by decide, rfl, lw_in (tb_1 _ (List.mem_of_getElem? (i := 123) rfl)) rfl, gwX6⟩
theorem f_X5_9 : wFG RX5 9 5 0 0 := ⟨RX5, TX5, 12, rfl, rfl, by decide, by decide, rfl, lw_in (tb_1 _ (List.mem_of_getElem? (i := 220) rfl)) rfl, gwX5⟩
theorem f_X2_59 : wFG RX2 59 5 0 0 := ⟨RX5, TX5, 12, rfl, rfl, by decide, by decide, rfl, lw_in (tb_1 _ (List.mem_of_getElem? (i := 221) rfl)) rfl, gwX5⟩
theorem f_X5_15 : wFG RX5 15 5 1 0 := ⟨RX5, TX5, 12, rfl, rfl, by decide, by decide, rfl, lw_in (tb_1 _ (List.mem_of_getElem? (i := 222) rfl)) rfl, gwX5⟩
theorem f_X2_65 : wFG RX2 65 5 1 0 := ⟨RX5, TX5, 12, rfl, rfl, by decide, by decide, rfl, lw_in (tb_1 _ (List.mem_of_getElem? (i := 223) rfl)) rfl, gwX5⟩
theorem f_X5_18 : wFG RX5 18 5 2 0 := ⟨RX5, TX5, 12, rfl, rfl, by decide, by decide, rfl, lw_in (tb_1 _ (List.mem_of_getElem? (i := 224) rfl)) rfl, gwX5⟩
theorem f_X2_96 : wFG RX2 96 5 2 0 := ⟨RX5, TX5, 12, rfl, rfl, by decide, by decide, rfl, lw_in (tb_1 _ (List.mem_of_getElem? (i := 225) rfl)) rfl, gwX5⟩
theorem f_X5_46 : wFG RX5 46 5 3 2 := ⟨RX5, TX5, 12, rfl, rfl, by decide, by decide, rfl, lw_in (tb_1 _ (List.mem_of_getElem? (i := 226) rfl)) rfl, gwX5⟩
theorem f_X5_21 : wFG RX5 21 5 4 0 := ⟨RX5, TX5, 12, rfl, rfl, by decide, by decide, rfl, lw_in (tb_1 _ (List.mem_of_getElem? (i := 227) rfl)) rfl, gwX5⟩
theorem f_X5_24 : wFG RX5 24 5 5 0 := ⟨RX5, TX5, 12, rfl, rfl, by decide, by decide, rfl, lw_in (tb_1 _ (List.mem_of_getElem? (i := 228) rfl)) rfl, gwX5⟩
theorem f_X5_27 : wFG RX5 27 5 6 0 := ⟨RX5, TX5, 12, rfl, rfl, by decide, by decide, rfl, lw_in (tb_1 _ (List.mem_of_getElem? (i := 229) rfl)) rfl, gwX5⟩
theorem f_X5_30 : wFG RX5 30 5 7 0 := ⟨RX5, TX5, 12, rfl, rfl, by decide, by decide, rfl, lw_in (tb_1 _ (List.mem_of_getElem? (i := 230) rfl)) rfl, gwX5⟩
theorem f_X5_33 : wFG RX5 33 5 8 2 := ⟨RX5, TX5, 12, rfl, rfl, by decide, by decide, rfl, lw_in (tb_1 _ (List.mem_of_getElem? (i := 231) rfl)) rfl, gwX5⟩
theorem f_X5_37 : wFG RX5 37 5 9 2 := ⟨RX5, TX5, 12, rfl, rfl, by decide, by decide, rfl, lw_in (tb_1 _ (List.mem_of_getElem? (i := 232) rfl)) rfl, gwX5⟩
theorem f_X5_40 : wFG RX5 40 5 10 2 := ⟨RX5, TX5, 12, rfl, rfl, by decide, by decide, rfl, lw_in (tb_1 _ (List.mem_of_getElem? (i := 233) rfl)) rfl, gwX5⟩
theorem f_X5_43 : wFG RX5 43 5 11 2 := ⟨RX5, TX5, 12, rfl, rfl, by decide, by decide, rfl, lw_in (tb_1 _ (List.mem_of_getElem? (i := 234) rfl)) rfl, gwX5⟩
theorem f_X2_9 : wFG RX2 9 2 0 0 := ⟨RX2, TX2, 10, rfl, rfl, by decide, by decide, rfl, lw_in (tb_2 _ (List.mem_of_getElem? (i := 20) rfl)) rfl, gwX2⟩
theorem f_X8_105 : wFG RX8 105 2 0 0 := ⟨RX2, TX2, 10, rfl, rfl, by decide, by decide, rfl, lw_in (tb_2 _ (List.mem_of_getElem? (i := 21) rfl)) rfl, gwX2⟩
theorem f_X2_15 : wFG RX2 15 2 1 0 := ⟨RX2, TX2, 10, rfl, rfl, by decide, by decide, rfl, lw_in (tb_2 _ (List.mem_of_getElem? (i := 22) rfl)) rfl, gwX2⟩
theorem f_X8_108 : wFG RX8 108 2 1 0 := ⟨RX2, TX2, 10, rfl, rfl, by decide, by decide, rfl, lw_in (tb_2 _ (List.mem_of_getElem? (i := 23) rfl)) rfl, gwX2⟩
theorem f_X2_42 : wFG RX2 42 2 2 2 := ⟨RX2, TX2, 10, rfl, rfl, by decide, by decide, rfl, lw_in (tb_2 _ (List.mem_of_getElem? (i := 24) rfl)) rfl, gwX2⟩
theorem f_X2_46 : wFG RX2 46 2 3 2 := ⟨RX2, TX2, 10, rfl, rfl, by decide, by decide, rfl, lw_in (tb_2 _ (List.mem_of_getElem? (i := 25) rfl)) rfl, gwX2⟩
theorem f_X2_18 : wFG RX2 18 2 4 0 := ⟨RX2, TX2, 10, rfl, rfl, by decide, by decide, rfl, lw_in (tb_2 _ (List.mem_of_getElem? (i := 26) rfl)) rfl, gwX2⟩
theorem f_X2_21 : wFG RX2 21 2 5 0 := ⟨RX2, TX2, 10, rfl, rfl, by decide, by decide, rfl, lw_in (tb_2 _ (List.mem_of_getElem? (i := 27) rfl)) rfl, gwX2⟩
theorem f_X2_24 : wFG RX2 24 2 6 0 := ⟨RX2, TX2, 10, rfl, rfl, by decide, by decide, rfl, lw_in (tb_2 _ (List.mem_of_getElem? (i := 28) rfl)) rfl, gwX2⟩
theorem f_X2_27 : wFG RX2 27 2 7 0 := ⟨RX2, TX2, 10, rfl, rfl, by decide, by decide, rfl, lw_in (tb_2 _ (List.mem_of_getElem? (i := 29) rfl)) rfl, gwX2⟩
theorem f_X2_30 : wFG RX2 30 2 8 0 := ⟨RX2, TX2, 10, rfl, rfl, by decide, by decide, rfl, lw_in (tb_2 _ (List.mem_of_getElem? (i := 30) rfl)) rfl, gwX2⟩
theorem f_X2_33 : wFG RX2 33 2 9 2 := ⟨RX2, TX2, 10, rfl, rfl, by decide, by decide, rfl, lw_in (tb_2 _ (List.mem_of_getElem? (i := 31) rfl)) rfl, gwX2⟩
theorem f_X3_9 : wFG RX3 9 3 0 0 := ⟨RX3, TX3, 10, rfl, rfl, by decide, by decide, rfl, lw_in (tb_2 _ (List.mem_of_getElem? (i := 59) rfl)) rfl, gwX3⟩
theorem f_X0_73 : wFG RX0 73 3 0 0 := ⟨RX3, TX3, 10, rfl, rfl, by decide, by decide, rfl, lw_in (tb_2 _ (List.mem_of_getElem? (i := 60) rfl)) rfl, gwX3⟩
theorem f_X4_52 : wFG RX4 52 3 0 0 := ⟨RX3, TX3, 10, rfl, rfl, by decide, by decide, rfl, lw_in (tb_2 _ (List.mem_of_getElem? (i := 61) rfl)) rfl, gwX3⟩
theorem f_X8_208 : wFG RX8 208 3 0 0 := ⟨RX3, TX3, 10, rfl, rfl, by decide, by decide, rfl, lw_in (tb_2 _ (List.mem_of_getElem? (i := 62) rfl)) rfl, gwX3⟩
theorem f_X3_15 : wFG RX3 15 3 1 0 := ⟨RX3, TX3, 10, rfl, rfl, by decide, by decide, rfl, lw_in (tb_2 _ (List.mem_of_getElem? (i := 63) rfl)) rfl, gwX3⟩
theorem f_X8_349 : wFG RX8 349 3 1 0 := ⟨RX3, TX3, 10, rfl, rfl, by decide, by decide, rfl, lw_in (tb_2 _ (List.mem_of_getElem? (i := 64) rfl)) rfl, gwX3⟩
theorem f_X3_18 : wFG RX3 18 3 2 0 := ⟨RX3, TX3, 10, rfl, rfl, by decide, by decide, rfl, lw_in (tb_2 _ (List.mem_of_getElem? (i := 65) rfl)) rfl, gwX3⟩
theorem f_X0_93 : wFG RX0 93 3 2 0 := ⟨RX3, TX3, 10, rfl, rfl, by decide, by decide, rfl, lw_in (tb_2 _ (List.mem_of_getElem? (i := 66) rfl)) rfl, gwX3⟩
theorem f_X8_391 : wFG RX8 391 3 2 0 := ⟨RX3, TX3, 10, rfl, rfl, by decide, by decide, rfl, lw_in (tb_2 _ (List.mem_of_getElem? (i := 67) rfl)) rfl, gwX3⟩
theorem f_X3_21 : wFG RX3 21 3 3 0 := ⟨RX3, TX3, 10, rfl, rfl, by decide, by decide, rfl, lw_in (tb_2 _ (List.mem_of_getElem? (i := 68) rfl)) rfl, gwX3⟩
theorem f_X8_382 : wFG RX8 382 3 3 0 := ⟨RX3, TX3, 10, rfl, rfl, by decide, by decide, rfl, lw_in (tb_2 _ (List.mem_of_getElem? (i := 69) rfl)) rfl, gwX3⟩
theorem f_X3_24 : wFG RX3 24 3 4 2 := ⟨RX3, TX3, 10, rfl, rfl, by decide, by decide, rfl, lw_in (tb_2 _ (List.mem_of_getElem? (i := 70) rfl)) rfl, gwX3⟩
theorem f_X0_83 : wFG RX0 83 3 4 2 := ⟨RX3, TX3, 10, rfl, rfl, by decide, by decide, rfl, lw_in (tb_2 _ (List.mem_of_getElem? (i := 71) rfl)) rfl, gwX3⟩
theorem f_X8_138 : wFG RX8 138 3 4 2 := ⟨RX3, TX3, 10, rfl, rfl, by decide, by decide, rfl, lw_in (tb_2 _ (List.mem_of_getElem? (i := 72) rfl)) rfl, gwX3⟩
theorem f_X3_28 : wFG RX3 28 3 5 2 := ⟨RX3, TX3, 10, rfl, rfl, by decide, by decide, rfl, lw_in (tb_2 _ (List.mem_of_getElem? (i := 73) rfl)) rfl, gwX3⟩
theorem f_X8_129 : wFG RX8 129 3 5 2 := ⟨RX3, TX3, 10, rfl, rfl, by decide, by decide, rfl, lw_in (tb_2 _ (List.mem_of_getElem? (i := 74) rfl)) rfl, gwX3⟩
theorem f_X0_128 : wFG RX0 128 3 5 2 := ⟨RX3, TX3, 10, rfl, rfl, by decide, by decide, rfl, lw_in (tb_2 _ (List.mem_of_getElem? (i := 75) rfl)) rfl, gwX3⟩
theorem f_X3_31 : wFG RX3 31 3 6 2 := ⟨RX3, TX3, 10, rfl, rfl, by decide, by decide, rfl, lw_in (tb_2 _ (List.mem_of_getElem? (i := 76) rfl)) rfl, gwX3⟩
theorem f_X7_40 : wFG RX7 40 3 6 2 := ⟨RX3, TX3, 10, rfl, rfl, by decide, by decide, rfl, lw_in (tb_2 _ (List.mem_of_getElem? (i := 77) rfl)) rfl, gwX3⟩
theorem f_X8_132 : wFG RX8 132 3 6 2 := ⟨RX3, TX3, 10, rfl, rfl, by decide, by decide, rfl, lw_in (tb_2 _ (List.mem_of_getElem? (i := 78) rfl)) rfl, gwX3⟩
theorem f_X4_57 : wFG RX4 57 3 6 2 := ⟨RX3, TX3, 10, rfl, rfl, by decide, by decide, rfl, lw_in (tb_2 _ (List.mem_of_getElem? (i := 79) rfl)) rfl, gwX3⟩
theorem f_X0_131 : wFG RX0 131 3 6 2 := ⟨RX3, TX3, 10, rfl, rfl, by decide, by decide, rfl, lw_in (tb_2 _ (List.mem_of_getElem? (i := 80) rfl)) rfl, gwX3⟩
theorem f_X3_34 : wFG RX3 34 3 7 2 := ⟨RX3, TX3, 10, rfl, rfl, by decide, by decide, rfl, lw_in (tb_2 _ (List.mem_of_getElem? (i := 81) rfl)) rfl, gwX3⟩
theorem f_X8_152 : wFG RX8 152 3 7 2 := ⟨RX3, TX3, 10, rfl, rfl, by decide, by decide, rfl, lw_in (tb_2 _ (List.mem_of_getElem? (i := 82) rfl)) rfl, gwX3⟩
theorem f_X0_166 : wFG RX0 166 3 7 2 := ⟨RX3, TX3, 10, rfl, rfl, by decide, by decide, rfl, lw_in (tb_2 _ (List.mem_of_getElem? (i := 83) rfl)) rfl, gwX3⟩
theorem f_X3_37 : wFG RX3 37 3 8 2 := ⟨RX3, TX3, 10, rfl, rfl, by decide, by decide, rfl, lw_in (tb_2 _ (List.mem_of_getElem? (i := 84) rfl)) rfl, gwX3⟩
theorem f_X8_172 : wFG RX8 172 3 8 2 := ⟨RX3, TX3, 10, rfl, rfl, by decide, by decide, rfl, lw_in (tb_2 _ (List.mem_of_getElem? (i := 85) rfl)) rfl, gwX3⟩
theorem f_X0_140 : wFG RX0 140 3 8 2 := ⟨RX3, TX3, 10, rfl, rfl, by decide, by decide, rfl, lw_in (tb_2 _ (List.mem_of_getElem? (i := 86) rfl)) rfl, gwX3⟩
theorem f_X3_40 : wFG RX3 40 3 9 2 := ⟨RX3, TX3, 10, rfl, rfl, by decide, by decide, rfl, lw_in (tb_2 _ (List.mem_of_getElem? (i := 87) rfl)) rfl, gwX3⟩
theorem f_X8_175 : wFG RX8 175 3 9 2 := ⟨RX3, TX3, 10, rfl, rfl, by decide, by decide, rfl, lw_in (tb_2 _ (List.mem_of_getElem? (i := 88) rfl)) rfl, gwX3⟩
theorem f_X0_199 : wFG RX0 199 3 9 2 := ⟨RX3, TX3, 10, rfl, rfl, by decide, by decide, rfl, lw_in (tb_2 _ (List.mem_of_getElem? (i := 89) rfl)) rfl, gwX3⟩
theorem f_X0_9 : wFG RX0 9 0 0 0 := ⟨RX0, TX0, 10, rfl, rfl, by decide, by decide, rfl, lw_in (tb_2 _ (List.mem_of_getElem? (i := 117) rfl)) rfl, gwX0⟩
theorem f_X8_352 : wFG RX8 352 0 0 0 := ⟨RX0, TX0, 10, rfl, rfl, by decide, by decide, rfl, lw_in (tb_2 _ (List.mem_of_getElem? (i := 118) rfl)) rfl, gwX0⟩
theorem f_X0_15 : wFG RX0 15 0 1 0 := ⟨RX0, TX0, 10, rfl, rfl, by decide, by decide, rfl, lw_in (tb_2 _ (List.mem_of_getElem? (i := 119) rfl)) rfl, gwX0⟩
theorem f_X8_355 : wFG RX8 355 0 1 0 := ⟨RX0, TX0, 10, rfl, rfl, by decide, by decide, rfl, lw_in (tb_2 _ (List.mem_of_getElem? (i := 120) rfl)) rfl, gwX0⟩
theorem f_X0_19 : wFG RX0 19 0 2 0 := ⟨RX0, TX0, 10, rfl, rfl, by decide, by decide, rfl, lw_in (tb_2 _ (List.mem_of_getElem? (i := 121) rfl)) rfl, gwX0⟩
theorem f_X8_361 : wFG RX8 361 0 2 0 := ⟨RX0, TX0, 10, rfl, rfl, by decide, by decide, rfl, lw_in (tb_2 _ (List.mem_of_getElem? (i := 122) rfl)) rfl, gwX0⟩
theorem f_X0_22 : wFG RX0 22 0 3 0 := ⟨RX0, TX0, 10, rfl, rfl, by decide, by decide, rfl, lw_in (tb_2 _ (List.mem_of_getElem? (i := 123) rfl)) rfl, gwX0⟩
theorem f_X8_364 : wFG RX8 364 0 3 0 := ⟨RX0, TX0, 10, rfl, rfl, by decide, by decide, rfl, lw_in (tb_2 _ (List.mem_of_getElem? (i := 124) rfl)) rfl, gwX0⟩
theorem f_X0_25 : wFG RX0 25 0 4 0 := ⟨RX0, TX0, 10, rfl, rfl, by decide, by decide, rfl, lw_in (tb_2 _ (List.mem_of_getElem? (i := 125) rfl)) rfl, gwX0⟩
theorem f_X8_358 : wFG RX8 358 0 4 0 := ⟨RX0, TX0, 10, rfl, rfl, by decide, by decide, rfl, lw_in (tb_2 _ (List.mem_of_getElem? (i := 126) rfl)) rfl, gwX0⟩
theorem f_X0_28 : wFG RX0 28 0 5 0 := ⟨RX0, TX0, 10, rfl, rfl, by decide, by decide, rfl, lw_in (tb_2 _ (List.mem_of_getElem? (i := 127) rfl)) rfl, gwX0⟩
theorem f_X8_266 : wFG RX8 266 0 5 0 := ⟨RX0, TX0, 10, rfl, rfl, by decide, by decide, rfl, lw_in (tb_2 _ (List.mem_of_getElem? (i := 128) rfl)) rfl, gwX0⟩
theorem f_X0_31 : wFG RX0 31 0 6 0 := ⟨RX0, TX0, 10, rfl, rfl, by decide, by decide, rfl, lw_in (tb_2 _ (List.mem_of_getElem? (i := 129) rfl)) rfl, gwX0⟩
theorem f_X8_332 : wFG RX8 332 0 6 0 := ⟨RX0, TX0, 10, rfl, rfl, by decide, by decide, rfl, lw_in (tb_2 _ (List.mem_of_getElem? (i := 130) rfl)) rfl, gwX0⟩
theorem f_X0_34 : wFG RX0 34 0 7 0 := ⟨RX0, TX0, 10, rfl, rfl, by decide, by decide, rfl, lw_in (tb_2 _ (List.mem_of_getElem? (i := 131) rfl)) rfl, gwX0⟩
theorem f_X8_335 : wFG RX8 335 0 7 0 := ⟨RX0, TX0, 10, rfl, rfl, by decide, by decide, rfl, lw_in (tb_2 _ (List.mem_of_getElem? (i := 132) rfl)) rfl, gwX0⟩
theorem f_X0_41 : wFG RX0 41 0 8 2 := ⟨RX0, TX0, 10, rfl, rfl, by decide, by decide, rfl, lw_in (tb_2 _ (List.mem_of_getElem? (i := 133) rfl)) rfl, gwX0⟩
theorem f_X0_37 : wFG RX0 37 0 9 2 := ⟨RX0, TX0, 10, rfl, rfl, by decide, by decide, rfl, lw_in (tb_2 _ (List.mem_of_getElem? (i := 134) rfl)) rfl, gwX0⟩
theorem f_X7_9 : wFG RX7 9 7 0 0 := ⟨RX7, TX7, 4, rfl, rfl, by decide, by decide, rfl, lw_in (tb_2 _ (List.mem_of_getElem? (i := 162) rfl)) rfl, gwX7⟩
theorem f_X8_99 : wFG RX8 99 7 0 0 := ⟨RX7, TX7, 4, rfl, rfl, by decide, by decide, rfl, lw_in (tb_2 _ (List.mem_of_getElem? (i := 163) rfl)) rfl, gwX7⟩
theorem f_X7_15 : wFG RX7 15 7 1 2 := ⟨RX7, TX7, 4, rfl, rfl, by decide, by decide, rfl, lw_in (tb_2 _ (List.mem_of_getElem? (i := 164) rfl)) rfl, gwX7⟩
theorem f_X7_19 : wFG RX7 19 7 2 2 := ⟨RX7, TX7, 4, rfl, rfl, by decide, by decide, rfl, lw_in (tb_2 _ (List.mem_of_getElem? (i := 165) rfl)) rfl, gwX7⟩
theorem f_X7_22 : wFG RX7 22 7 3 2 := ⟨RX7, TX7, 4, rfl, rfl, by decide, by decide, rfl, lw_in (tb_2 _ (List.mem_of_getElem? (i := 166) rfl)) rfl, gwX7⟩
theorem f_X4_9 : wFG RX4 9 4 0 0 := ⟨RX4, TX4, 8, rfl, rfl, by decide, by decide, rfl, lw_in (tb_2 _ (List.mem_of_getElem? (i := 182) rfl)) rfl, gwX4⟩
theorem f_X8_322 : wFG RX8 322 4 0 0 := ⟨RX4, TX4, 8, rfl, rfl, by decide, by decide, rfl, lw_in (tb_2 _ (List.mem_of_getElem? (i := 183) rfl)) rfl, gwX4⟩
theorem f_X4_15 : wFG RX4 15 4 1 0 := ⟨RX4, TX4, 8, rfl, rfl, by decide, by decide, rfl, lw_in (tb_2 _ (List.mem_of_getElem? (i := 184) rfl)) rfl, gwX4⟩
theorem f_X8_323 : wFG RX8 323 4 1 0 := ⟨RX4, TX4, 8, rfl, rfl, by decide, by decide, rfl, lw_in (tb_2 _ (List.mem_of_getElem? (i := 185) rfl)) rfl, gwX4⟩
theorem f_X4_18 : wFG RX4 18 4 2 2 := ⟨RX4, TX4, 8, rfl, rfl, by decide, by decide, rfl, lw_in (tb_2 _ (List.mem_of_getElem? (i := 186) rfl)) rfl, gwX4⟩
theorem f_X4_22 : wFG RX4 22 4 3 2 := ⟨RX4, TX4, 8, rfl, rfl, by decide, by decide, rfl, lw_in (tb_2 _ (List.mem_of_getElem? (i := 187) rfl)) rfl, gwX4⟩
theorem f_X4_25 : wFG RX4 25 4 4 2 := ⟨RX4, TX4, 8, rfl, rfl, by decide, by decide, rfl, lw_in (tb_2 _ (List.mem_of_getElem? (i := 188) rfl)) rfl, gwX4⟩
theorem f_X4_28 : wFG RX4 28 4 5 2 := ⟨RX4, TX4, 8, rfl, rfl, by decide, by decide, rfl, lw_in (tb_2 _ (List.mem_of_getElem? (i := 189) rfl)) rfl, gwX4⟩
theorem f_X4_32 : wFG RX4 32 4 6 2 := ⟨RX4, TX4, 8, rfl, rfl, by decide, by decide, rfl, lw_in (tb_2 _ (List.mem_of_getElem? (i := 190) rfl)) rfl, gwX4⟩
theorem f_X4_35 : wFG RX4 35 4 7 2 := ⟨RX4, TX4, 8, rfl, rfl, by decide, by decide, rfl, lw_in (tb_2 _ (List.mem_of_getElem? (i := 191) rfl)) rfl, gwX4⟩
theorem f_X8_11 : wFG RX8 11 8 0 2 := ⟨RX8, TX8, 14, rfl, rfl, by decide, by decide, rfl, lw_in (tb_2 _ (List.mem_of_getElem? (i := 209) rfl)) rfl, gwX8⟩
theorem f_X8_15 : wFG RX8 15 8 1 0 := ⟨RX8, TX8, 14, rfl, rfl, by decide, by decide, rfl, lw_in (tb_2 _ (List.mem_of_getElem? (i := 210) rfl)) rfl, gwX8⟩
theorem f_X8_22 : wFG RX8 22 8 2 2 := ⟨RX8, TX8, 14, rfl, rfl, by decide, by decide, rfl, lw_in (tb_2 _ (List.mem_of_getElem? (i := 211) rfl)) rfl, gwX8⟩
theorem f_X8_26 : wFG RX8 26 8 3 2 := ⟨RX8, TX8, 14, rfl, rfl, by decide, by decide, rfl, lw_in (tb_2 _ (List.mem_of_getElem? (i := 212) rfl)) rfl, gwX8⟩
theorem f_X8_34 : wFG RX8 34 8 4 2 := ⟨RX8, TX8, 14, rfl, rfl, by decide, by decide, rfl, lw_in (tb_2 _ (List.mem_of_getElem? (i := 213) rfl)) rfl, gwX8⟩
theorem f_X8_41 : wFG RX8 41 8 5 2 := ⟨RX8, TX8, 14, rfl, rfl, by decide, by decide, rfl, lw_in (tb_2 _ (List.mem_of_getElem? (i := 214) rfl)) rfl, gwX8⟩
theorem f_X8_45 : wFG RX8 45 8 6 2 := ⟨RX8, TX8, 14, rfl, rfl, by decide, by decide, rfl, lw_in (tb_2 _ (List.mem_of_getElem? (i := 215) rfl)) rfl, gwX8⟩
theorem f_X8_48 : wFG RX8 48 8 7 2 := ⟨RX8, TX8, 14, rfl, rfl, by decide, by decide, rfl, lw_in (tb_2 _ (List.mem_of_getElem? (i := 216) rfl)) rfl, gwX8⟩
theorem f_X8_51 : wFG RX8 51 8 8 0 := ⟨RX8, TX8, 14, rfl, rfl, by decide, by decide, rfl, lw_in (tb_2 _ (List.mem_of_getElem? (i := 217) rfl)) rfl, gwX8⟩
theorem f_X8_60 : wFG RX8 60 8 9 2 := ⟨RX8, TX8, 14, rfl, rfl, by decide, by decide, rfl, lw_in (tb_2 _ (List.mem_of_getElem? (i := 218) rfl)) rfl, gwX8⟩
theorem f_X8_67 : wFG RX8 67 8 10 2 := ⟨RX8, TX8, 14, rfl, rfl, by decide, by decide, rfl, lw_in (tb_2 _ (List.mem_of_getElem? (i := 219) rfl)) rfl, gwX8⟩
theorem f_X8_74 : wFG RX8 74 8 11 2 := ⟨RX8, TX8, 14, rfl, rfl, by decide, by decide, rfl, lw_in (tb_2 _ (List.mem_of_getElem? (i := 220) rfl)) rfl, gwX8⟩
theorem f_X8_78 : wFG RX8 78 8 12 2 := ⟨RX8, TX8, 14, rfl, rfl, by decide, by decide, rfl, lw_in (tb_2 _ (List.mem_of_getElem? (i := 221) rfl)) rfl, gwX8⟩
theorem f_X8_82 : wFG RX8 82 8 13 2 := ⟨RX8, TX8, 14, rfl, rfl, by decide, by decide, rfl, lw_in (tb_2 _ (List.mem_of_getElem? (i := 222) rfl)) rfl, gwX8⟩
theorem f_X9_7 : wFG RX9 7 9 0 2 := ⟨RX9, TX9, 80, rfl, rfl, by decide, by decide, rfl, lw_in (tb_6 _ (List.mem_of_getElem? (i := 54) rfl)) rfl, gwX9⟩
theorem f_X9_145 : wFG RX9 145 9 1 0 := ⟨RX9, TX9, 80, rfl, rfl, by decide, by decide, rfl, lw_in (tb_6 _ (List.mem_of_getElem? (i := 55) rfl)) rfl, gwX9⟩
theorem f_X9_142 : wFG RX9 142 9 2 0 := ⟨RX9, TX9, 80, rfl, rfl, by decide, by decide, rfl, lw_in (tb_6 _ (List.mem_of_getElem? (i := 56) rfl)) rfl, gwX9⟩
theorem f_X9_13 : wFG RX9 13 9 3 2 := ⟨RX9, TX9, 80, rfl, rfl, by decide, by decide, rfl, lw_in (tb_6 _ (List.mem_of_getElem? (i := 57) rfl)) rfl, gwX9⟩
theorem f_X9_148 : wFG RX9 148 9 4 0 := ⟨RX9, TX9, 80, rfl, rfl, by decide, by decide, rfl, lw_in (tb_6 _ (List.mem_of_getElem? (i := 58) rfl)) rfl, gwX9⟩
theorem f_X9_16 : wFG RX9 16 9 5 0 := ⟨RX9, TX9, 80, rfl, rfl, by decide, by decide, rfl, lw_in (tb_6 _ (List.mem_of_getElem? (i := 59) rfl)) rfl, gwX9⟩
theorem f_X9_154 : wFG RX9 154 9 6 0 := ⟨RX9, TX9, 80, rfl, rfl, by decide, by decide, rfl, lw_in (tb_6 _ (List.mem_of_getElem? (i := 60) rfl)) rfl, gwX9⟩
theorem f_X9_157 : wFG RX9 157 9 7 0 := ⟨RX9, TX9, 80, rfl, rfl, by decide, by decide, rfl, lw_in (tb_6 _ (List.mem_of_getElem? (i := 61) rfl)) rfl, gwX9⟩
theorem f_X9_160 : wFG RX9 160 9 8 0 := ⟨RX9, TX9, 80, rfl, rfl, by decide, by decide, rfl, lw_in (tb_6 _ (List.mem_of_getElem? (i := 62) rfl)) rfl, gwX9⟩
theorem f_X9_171 : wFG RX9 171 9 9 0 := ⟨RX9, TX9, 80, rfl, rfl, by decide, by decide, rfl, lw_in (tb_6 _ (List.mem_of_getElem? (i := 63) rfl)) rfl, gwX9⟩
theorem f_X9_151 : wFG RX9 151 9 10 0 := ⟨RX9, TX9, 80, rfl, rfl, by decide, by decide, rfl, lw_in (tb_6 _ (List.mem_of_getElem? (i := 64) rfl)) rfl, gwX9⟩
theorem f_X9_191 : wFG RX9 191 9 11 0 := ⟨RX9, TX9, 80, rfl, rfl, by decide, by decide, rfl, lw_in (tb_6 _ (List.mem_of_getElem? (i := 65) rfl)) rfl, gwX9⟩
theorem f_X9_219 : wFG RX9 219 9 12 0 := ⟨RX9, TX9, 80, rfl, rfl, by decide, by decide, rfl, lw_in (tb_6 _ (List.mem_of_getElem? (i := 66) rfl)) rfl, gwX9⟩
theorem f_X9_222 : wFG RX9 222 9 13 0 := ⟨RX9, TX9, 80, rfl, rfl, by decide, by decide, rfl, lw_in (tb_6 _ (List.mem_of_getElem? (i := 67) rfl)) rfl, gwX9⟩
theorem f_X9_225 : wFG RX9 225 9 14 0 := ⟨RX9, TX9, 80, rfl, rfl, by decide, by decide, rfl, lw_in (tb_6 _ (List.mem_of_getElem? (i := 68) rfl)) rfl, gwX9⟩
theorem f_X9_228 : wFG RX9 228 9 15 0 := ⟨RX9, TX9, 80, rfl, rfl, by decide, by decide, rfl, lw_in (tb_6 _ (List.mem_of_getElem? (i := 69) rfl)) rfl, gwX9⟩
theorem f_X9_204 : wFG RX9 204 9 16 0 := ⟨RX9, TX9, 80, rfl, rfl, by decide, by decide, rfl, lw_in (tb_6 _ (List.mem_of_getElem? (i := 70) rfl)) rfl, gwX9⟩
theorem f_X9_207 : wFG RX9 207 9 17 0 := ⟨RX9, TX9, 80, rfl, rfl, by decide, by decide, rfl, lw_in (tb_6 _ (List.mem_of_getElem? (i := 71) rfl)) rfl, gwX9⟩
theorem f_X9_210 : wFG RX9 210 9 18 0 := ⟨RX9, TX9, 80, rfl, rfl, by decide, by decide, rfl, lw_in (tb_6 _ (List.mem_of_getElem? (i := 72) rfl)) rfl, gwX9⟩
theorem f_X9_213 : wFG RX9 213 9 19 0 := ⟨RX9, TX9, 80, rfl, rfl, by decide, by decide, rfl, lw_in (tb_6 _ (List.mem_of_getElem? (i := 73) rfl)) rfl, gwX9⟩
theorem f_X9_20 : wFG RX9 20 9 20 2 := ⟨RX9, TX9, 80, rfl, rfl, by decide, by decide, rfl, lw_in (tb_6 _ (List.mem_of_getElem? (i := 74) rfl)) rfl, gwX9⟩
theorem f_X9_24 : wFG RX9 24 9 21 2 := ⟨RX9, TX9, 80, rfl, rfl, by decide, by decide, rfl, lw_in (tb_6 _ (List.mem_of_getElem? (i := 75) rfl)) rfl, gwX9⟩
theorem f_X9_27 : wFG RX9 27 9 22 2 := ⟨RX9, TX9, 80, rfl, rfl, by decide, by decide, rfl, lw_in (tb_6 _ (List.mem_of_getElem? (i := 76) rfl)) rfl, gwX9⟩
theorem f_X9_30 : wFG RX9 30 9 23 2 := ⟨RX9, TX9, 80, rfl, rfl, by decide, by decide, rfl, lw_in (tb_6 _ (List.mem_of_getElem? (i := 77) rfl)) rfl, gwX9⟩
theorem f_X9_33 : wFG RX9 33 9 24 2 := ⟨RX9, TX9, 80, rfl, rfl, by decide, by decide, rfl, lw_in (tb_6 _ (List.mem_of_getElem? (i := 78) rfl)) rfl, gwX9⟩
theorem f_X9_36 : wFG RX9 36 9 25 2 := ⟨RX9, TX9, 80, rfl, rfl, by decide, by decide, rfl, lw_in (tb_6 _ (List.mem_of_getElem? (i := 79) rfl)) rfl, gwX9⟩
theorem f_X9_39 : wFG RX9 39 9 26 2 := ⟨RX9, TX9, 80, rfl, rfl, by decide, by decide, rfl, lw_in (tb_6 _ (List.mem_of_getElem? (i := 80) rfl)) rfl, gwX9⟩
theorem f_X9_42 : wFG RX9 42 9 27 2 := ⟨RX9, TX9, 80, rfl, rfl, by decide, by decide, rfl, lw_in (tb_6 _ (List.mem_of_getElem? (i := 81) rfl)) rfl, gwX9⟩
theorem f_X9_45 : wFG RX9 45 9 28 2 := ⟨RX9, TX9, 80, rfl, rfl, by decide, by decide, rfl, lw_in (tb_6 _ (List.mem_of_getElem? (i := 82) rfl)) rfl, gwX9⟩
theorem f_X9_48 : wFG RX9 48 9 29 2 := ⟨RX9, TX9, 80, rfl, rfl, by decide, by decide, rfl, lw_in (tb_6 _ (List.mem_of_getElem? (i := 83) rfl)) rfl, gwX9⟩
theorem f_X9_51 : wFG RX9 51 9 30 2 := ⟨RX9, TX9, 80, rfl, rfl, by decide, by decide, rfl, lw_in (tb_6 _ (List.mem_of_getElem? (i := 84) rfl)) rfl, gwX9⟩
theorem f_X9_54 : wFG RX9 54 9 31 2 := ⟨RX9, TX9, 80, rfl, rfl, by decide, by decide, rfl, lw_in (tb_6 _ (List.mem_of_getElem? (i := 85) rfl)) rfl, gwX9⟩
theorem f_X9_57 : wFG RX9 57 9 32 2 := ⟨RX9, TX9, 80, rfl, rfl, by decide, by decide, rfl, lw_in (tb_6 _ (List.mem_of_getElem? (i := 86) rfl)) rfl, gwX9⟩
theorem f_X9_60 : wFG RX9 60 9 33 2 := ⟨RX9, TX9, 80, rfl, rfl, by decide, by decide, rfl, lw_in (tb_6 _ (List.mem_of_getElem? (i := 87) rfl)) rfl, gwX9⟩
theorem f_X9_63 : wFG RX9 63 9 34 2 := ⟨RX9, TX9, 80, rfl, rfl, by decide, by decide, rfl, lw_in (tb_6 _ (List.mem_of_getElem? (i := 88) rfl)) rfl, gwX9⟩
theorem f_X9_66 : wFG RX9 66 9 35 2 := ⟨RX9, TX9, 80, rfl, rfl, by decide, by decide, rfl, lw_in (tb_6 _ (List.mem_of_getElem? (i := 89) rfl)) rfl, gwX9⟩
theorem f_X9_69 : wFG RX9 69 9 36 2 := ⟨RX9, TX9, 80, rfl, rfl, by decide, by decide, rfl, lw_in (tb_6 _ (List.mem_of_getElem? (i := 90) rfl)) rfl, gwX9⟩
theorem f_X9_72 : wFG RX9 72 9 37 2 := ⟨RX9, TX9, 80, rfl, rfl, by decide, by decide, rfl, lw_in (tb_6 _ (List.mem_of_getElem? (i := 91) rfl)) rfl, gwX9⟩
theorem f_X9_75 : wFG RX9 75 9 38 2 := ⟨RX9, TX9, 80, rfl, rfl, by decide, by decide, rfl, lw_in (tb_6 _ (List.mem_of_getElem? (i := 92) rfl)) rfl, gwX9⟩
theorem f_X9_78 : wFG RX9 78 9 39 2 := ⟨RX9, TX9, 80, rfl, rfl, by decide, by decide, rfl, lw_in (tb_6 _ (List.mem_of_getElem? (i := 93) rfl)) rfl, gwX9⟩
theorem f_X9_268 : wFG RX9 268 9 40 0 := ⟨RX9, TX9, 80, rfl, rfl, by decide, by decide, rfl, lw_in (tb_6 _ (List.mem_of_getElem? (i := 94) rfl)) rfl, gwX9⟩
theorem f_X9_265 : wFG RX9 265 9 41 0 := ⟨RX9, TX9, 80, rfl, rfl, by decide, by decide, rfl, lw_in (tb_6 _ (List.mem_of_getElem? (i := 95) rfl)) rfl, gwX9⟩
theorem f_X9_283 : wFG RX9 283 9 42 0 := ⟨RX9, TX9, 80, rfl, rfl, by decide, by decide, rfl, lw_in (tb_6 _ (List.mem_of_getElem? (i := 96) rfl)) rfl, gwX9⟩
theorem f_X9_216 : wFG RX9 216 9 43 0 := ⟨RX9, TX9, 80, rfl, rfl, by decide, by decide, rfl, lw_in (tb_6 _ (List.mem_of_getElem? (i := 97) rfl)) rfl, gwX9⟩
theorem f_X9_303 : wFG RX9 303 9 44 0 := ⟨RX9, TX9, 80, rfl, rfl, by decide, by decide, rfl, lw_in (tb_6 _ (List.mem_of_getElem? (i := 98) rfl)) rfl, gwX9⟩
theorem f_X9_290 : wFG RX9 290 9 45 0 := ⟨RX9, TX9, 80, rfl, rfl, by decide, by decide, rfl, lw_in (tb_6 _ (List.mem_of_getElem? (i := 99) rfl)) rfl, gwX9⟩
theorem f_X9_81 : wFG RX9 81 9 46 2 := ⟨RX9, TX9, 80, rfl, rfl, by decide, by decide, rfl, lw_in (tb_6 _ (List.mem_of_getElem? (i := 100) rfl)) rfl, gwX9⟩
theorem f_X9_85 : wFG RX9 85 9 47 2 := ⟨RX9, TX9, 80, rfl, rfl, by decide, by decide, rfl, lw_in (tb_6 _ (List.mem_of_getElem? (i := 101) rfl)) rfl, gwX9⟩
theorem f_X9_315 : wFG RX9 315 9 48 0 := ⟨RX9, TX9, 80, rfl, rfl, by decide, by decide, rfl, lw_in (tb_6 _ (List.mem_of_getElem? (i := 102) rfl)) rfl, gwX9⟩
theorem f_X9_88 : wFG RX9 88 9 49 2 := ⟨RX9, TX9, 80, rfl, rfl, by decide, by decide, rfl, lw_in (tb_6 _ (List.mem_of_getElem? (i := 103) rfl)) rfl, gwX9⟩
theorem f_X9_91 : wFG RX9 91 9 50 2 := ⟨RX9, TX9, 80, rfl, rfl, by decide, by decide, rfl, lw_in (tb_6 _ (List.mem_of_getElem? (i := 104) rfl)) rfl, gwX9⟩
theorem f_X9_94 : wFG RX9 94 9 51 2 := ⟨RX9, TX9, 80, rfl, rfl, by decide, by decide, rfl, lw_in (tb_6 _ (List.mem_of_getElem? (i := 105) rfl)) rfl, gwX9⟩
theorem f_X9_97 : wFG RX9 97 9 52 2 := ⟨RX9, TX9, 80, rfl, rfl, by decide, by decide, rfl, lw_in (tb_6 _ (List.mem_of_getElem? (i := 106) rfl)) rfl, gwX9⟩
theorem f_X9_100 : wFG RX9 100 9 53 2 := ⟨RX9, TX9, 80, rfl, rfl, by decide, by decide, rfl, lw_in (tb_6 _ (List.mem_of_getElem? (i := 107) rfl)) rfl, gwX9⟩
theorem f_X9_103 : wFG RX9 103 9 54 2 := ⟨RX9, TX9, 80, rfl, rfl, by decide, by decide, rfl, lw_in (tb_6 _ (List.mem_of_getElem? (i := 108) rfl)) rfl, gwX9⟩
theorem f_X9_106 : wFG RX9 106 9 55 2 := ⟨RX9, TX9, 80, rfl, rfl, by decide, by decide, rfl, lw_in (tb_6 _ (List.mem_of_getElem? (i := 109) rfl)) rfl, gwX9⟩
theorem f_X9_109 : wFG RX9 109 9 56 2 := ⟨RX9, TX9, 80, rfl, rfl, by decide, by decide, rfl, lw_in (tb_6 _ (List.mem_of_getElem? (i := 110) rfl)) rfl, gwX9⟩
theorem f_X9_112 : wFG RX9 112 9 57 2 := ⟨RX9, TX9, 80, rfl, rfl, by decide, by decide, rfl, lw_in (tb_6 _ (List.mem_of_getElem? (i := 111) rfl)) rfl, gwX9⟩
theorem f_X9_337 : wFG RX9 337 9 58 1 := ⟨RX9, TX9, 80, rfl, rfl, by decide, by decide, rfl, lw_in (tb_6 _ (List.mem_of_getElem? (i := 112) rfl)) rfl, gwX9⟩
theorem f_X9_425 : wFG RX9 425 9 59 0 := ⟨RX9, TX9, 80, rfl, rfl, by decide, by decide, rfl, lw_in (tb_6 _ (List.mem_of_getElem? (i := 113) rfl)) rfl, gwX9⟩
theorem f_X9_353 : wFG RX9 353 9 60 0 := ⟨RX9, TX9, 80, rfl, rfl, by decide, by decide, rfl, lw_in (tb_6 _ (List.mem_of_getElem? (i := 114) rfl)) rfl, gwX9⟩
theorem f_X9_356 : wFG RX9 356 9 61 0 := ⟨RX9, TX9, 80, rfl, rfl, by decide, by decide, rfl, lw_in (tb_6 _ (List.mem_of_getElem? (i := 115) rfl)) rfl, gwX9⟩
theorem f_X9_359 : wFG RX9 359 9 62 0 := ⟨RX9, TX9, 80, rfl, rfl, by decide, by decide, rfl, lw_in (tb_6 _ (List.mem_of_getElem? (i := 116) rfl)) rfl, gwX9⟩
theorem f_X9_362 : wFG RX9 362 9 63 0 := ⟨RX9, TX9, 80, rfl, rfl, by decide, by decide, rfl, lw_in (tb_6 _ (List.mem_of_getElem? (i := 117) rfl)) rfl, gwX9⟩
theorem f_X9_365 : wFG RX9 365 9 64 0 := ⟨RX9, TX9, 80, rfl, rfl, by decide, by decide, rfl, lw_in (tb_6 _ (List.mem_of_getElem? (i := 118) rfl)) rfl, gwX9⟩
theorem f_X9_368 : wFG RX9 368 9 65 0 := ⟨RX9, TX9, 80, rfl, rfl, by decide, by decide, rfl, lw_in (tb_6 _ (List.mem_of_getElem? (i := 119) rfl)) rfl, gwX9⟩
theorem f_X9_371 : wFG RX9 371 9 66 0 := ⟨RX9, TX9, 80, rfl, rfl, by decide, by decide, rfl, lw_in (tb_6 _ (List.mem_of_getElem? (i := 120) rfl)) rfl, gwX9⟩
theorem f_X9_374 : wFG RX9 374 9 67 0 := ⟨RX9, TX9, 80, rfl, rfl, by decide, by decide, rfl, lw_in (tb_6 _ (List.mem_of_getElem? (i := 121) rfl)) rfl, gwX9⟩
theorem f_X9_377 : wFG RX9 377 9 68 0 := ⟨RX9, TX9, 80, rfl, rfl, by decide, by decide, rfl, lw_in (tb_6 _ (List.mem_of_getElem? (i := 122) rfl)) rfl, gwX9⟩
theorem f_X9_115 : wFG RX9 115 9 69 2 := ⟨RX9, TX9, 80, rfl, rfl, by decide, by decide, rfl, lw_in (tb_6 _ (List.mem_of_getElem? (i := 123) rfl)) rfl, gwX9⟩
theorem f_X9_344 : wFG RX9 344 9 70 0 := ⟨RX9, TX9, 80, rfl, rfl, by decide, by decide, rfl, lw_in (tb_6 _ (List.mem_of_getElem? (i := 124) rfl)) rfl, gwX9⟩
theorem f_X9_118 : wFG RX9 118 9 71 0 := ⟨RX9, TX9, 80, rfl, rfl, by decide, by decide, rfl, lw_in (tb_6 _ (List.mem_of_getElem? (i := 125) rfl)) rfl, gwX9⟩
theorem f_X9_121 : wFG RX9 121 9 72 2 := ⟨RX9, TX9, 80, rfl, rfl, by decide, by decide, rfl, lw_in (tb_6 _ (List.mem_of_getElem? (i := 126) rfl)) rfl, gwX9⟩
theorem f_X9_124 : wFG RX9 124 9 73 2 := ⟨RX9, TX9, 80, rfl, rfl, by decide, by decide, rfl, lw_in (tb_6 _ (List.mem_of_getElem? (i := 127) rfl)) rfl, gwX9⟩
theorem f_X9_347 : wFG RX9 347 9 74 0 := ⟨RX9, TX9, 80, rfl, rfl, by decide, by decide, rfl, lw_in (tb_6 _ (List.mem_of_getElem? (i := 128) rfl)) rfl, gwX9⟩
theorem f_X9_127 : wFG RX9 127 9 75 2 := ⟨RX9, TX9, 80, rfl, rfl, by decide, by decide, rfl, lw_in (tb_6 _ (List.mem_of_getElem? (i := 129) rfl)) rfl, gwX9⟩
theorem f_X9_350 : wFG RX9 350 9 76 0 := ⟨RX9, TX9, 80, rfl, rfl, by decide, by decide, rfl, lw_in (tb_6 _ (List.mem_of_getElem? (i := 130) rfl)) rfl, gwX9⟩
theorem f_X9_130 : wFG RX9 130 9 77 2 := ⟨RX9, TX9, 80, rfl, rfl, by decide, by decide, rfl, lw_in (tb_6 _ (List.mem_of_getElem? (i := 131) rfl)) rfl, gwX9⟩
theorem f_X9_133 : wFG RX9 133 9 78 2 := ⟨RX9, TX9, 80, rfl, rfl, by decide, by decide, rfl, lw_in (tb_6 _ (List.mem_of_getElem? (i := 132) rfl)) rfl, gwX9⟩
theorem f_X9_543 : wFG RX9 543 9 79 1 := ⟨RX9, TX9, 80, rfl, rfl, by decide, by decide, rfl, lw_in (tb_6 _ (List.mem_of_getElem? (i := 133) rfl)) rfl, gwX9⟩
theorem g_0_0 : wFP 0 0 .int false := ⟨RX0, TX0, 10, tyX0, rfl, tyX0_ok, nmX0, rfl, by decide +kernel⟩
theorem g_0_1 : wFP 0 1 .boolean false := ⟨RX0, TX0, 10, tyX0, rfl, tyX0_ok, nmX0, rfl, by decide +kernel⟩
theorem g_0_2 : wFP 0 2 .boolean false := ⟨RX0, TX0, 10, tyX0, rfl, tyX0_ok, nmX0, rfl, by decide +kernel⟩
theorem g_0_3 : wFP 0 3 .boolean false := ⟨RX0, TX0, 10, tyX0, rfl, tyX0_ok, nmX0, rfl, by decide +kernel⟩
theorem g_0_4 : wFP 0 4 .int false := ⟨RX0, TX0, 10, tyX0, rfl, tyX0_ok, nmX0, rfl, by decide +kernel⟩
theorem g_0_5 : wFP 0 5 .int false := ⟨RX0, TX0, 10, tyX0, rfl, tyX0_ok, nmX0, rfl, by decide +kernel⟩
theorem g_0_6 : wFP 0 6 .int false := ⟨RX0, TX0, 10, tyX0, rfl, tyX0_ok, nmX0, rfl, by decide +kernel⟩
theorem g_0_7 : wFP 0 7 .int false := ⟨RX0, TX0, 10, tyX0, rfl, tyX0_ok, nmX0, rfl, by decide +kernel⟩
theorem g_0_8 : wFP 0 8 (.object "WaxBowl$Told") false := ⟨RX0, TX0, 10, tyX0, rfl, tyX0_ok, nmX0, rfl, by decide +kernel⟩
theorem g_0_9 : wFP 0 9 (.array .int) true := ⟨RX0, TX0, 10, tyX0, rfl, tyX0_ok, nmX0, rfl, by decide +kernel⟩
theorem g_1_0 : wFP 1 0 .int false := ⟨RX1, TX1, 7, tyX1, rfl, tyX1_ok, nmX1, rfl, by decide +kernel⟩
theorem g_1_1 : wFP 1 1 (.array .boolean) true := ⟨RX1, TX1, 7, tyX1, rfl, tyX1_ok, nmX1, rfl, by decide +kernel⟩
theorem g_1_2 : wFP 1 2 (.array .int) true := ⟨RX1, TX1, 7, tyX1, rfl, tyX1_ok, nmX1, rfl, by decide +kernel⟩
theorem g_1_3 : wFP 1 3 (.array .int) true := ⟨RX1, TX1, 7, tyX1, rfl, tyX1_ok, nmX1, rfl, by decide +kernel⟩
theorem g_1_4 : wFP 1 4 (.array .int) true := ⟨RX1, TX1, 7, tyX1, rfl, tyX1_ok, nmX1, rfl, by decide +kernel⟩
theorem g_1_5 : wFP 1 5 (.array .int) true := ⟨RX1, TX1, 7, tyX1, rfl, tyX1_ok, nmX1, rfl, by decide +kernel⟩
theorem g_1_6 : wFP 1 6 (.array .long) true := ⟨RX1, TX1, 7, tyX1, rfl, tyX1_ok, nmX1, rfl, by decide +kernel⟩
theorem g_2_0 : wFP 2 0 .int false := ⟨RX2, TX2, 10, tyX2, rfl, tyX2_ok, nmX2, rfl, by decide +kernel⟩
theorem g_2_1 : wFP 2 1 .int false := ⟨RX2, TX2, 10, tyX2, rfl, tyX2_ok, nmX2, rfl, by decide +kernel⟩
theorem g_2_2 : wFP 2 2 (.object "WaxBowl$Tokens") true := ⟨RX2, TX2, 10, tyX2, rfl, tyX2_ok, nmX2, rfl, by decide +kernel⟩
theorem g_2_3 : wFP 2 3 (.object "WaxBowl$Told") false := ⟨RX2, TX2, 10, tyX2, rfl, tyX2_ok, nmX2, rfl, by decide +kernel⟩
theorem g_2_4 : wFP 2 4 .int false := ⟨RX2, TX2, 10, tyX2, rfl, tyX2_ok, nmX2, rfl, by decide +kernel⟩
theorem g_2_5 : wFP 2 5 .int false := ⟨RX2, TX2, 10, tyX2, rfl, tyX2_ok, nmX2, rfl, by decide +kernel⟩
theorem g_2_6 : wFP 2 6 .int false := ⟨RX2, TX2, 10, tyX2, rfl, tyX2_ok, nmX2, rfl, by decide +kernel⟩
theorem g_2_7 : wFP 2 7 .int false := ⟨RX2, TX2, 10, tyX2, rfl, tyX2_ok, nmX2, rfl, by decide +kernel⟩
theorem g_2_8 : wFP 2 8 .int false := ⟨RX2, TX2, 10, tyX2, rfl, tyX2_ok, nmX2, rfl, by decide +kernel⟩
theorem g_2_9 : wFP 2 9 (.array .int) true := ⟨RX2, TX2, 10, tyX2, rfl, tyX2_ok, nmX2, rfl, by decide +kernel⟩
theorem g_3_0 : wFP 3 0 .int false := ⟨RX3, TX3, 10, tyX3, rfl, tyX3_ok, nmX3, rfl, by decide +kernel⟩
theorem g_3_1 : wFP 3 1 .int false := ⟨RX3, TX3, 10, tyX3, rfl, tyX3_ok, nmX3, rfl, by decide +kernel⟩
theorem g_3_2 : wFP 3 2 .int false := ⟨RX3, TX3, 10, tyX3, rfl, tyX3_ok, nmX3, rfl, by decide +kernel⟩
theorem g_3_3 : wFP 3 3 .int false := ⟨RX3, TX3, 10, tyX3, rfl, tyX3_ok, nmX3, rfl, by decide +kernel⟩
theorem g_3_4 : wFP 3 4 (.array .int) true := ⟨RX3, TX3, 10, tyX3, rfl, tyX3_ok, nmX3, rfl, by decide +kernel⟩
theorem g_3_5 : wFP 3 5 (.array .int) true := ⟨RX3, TX3, 10, tyX3, rfl, tyX3_ok, nmX3, rfl, by decide +kernel⟩
theorem g_3_6 : wFP 3 6 (.array .int) true := ⟨RX3, TX3, 10, tyX3, rfl, tyX3_ok, nmX3, rfl, by decide +kernel⟩
theorem g_3_7 : wFP 3 7 (.array .int) true := ⟨RX3, TX3, 10, tyX3, rfl, tyX3_ok, nmX3, rfl, by decide +kernel⟩
theorem g_3_8 : wFP 3 8 (.array .int) true := ⟨RX3, TX3, 10, tyX3, rfl, tyX3_ok, nmX3, rfl, by decide +kernel⟩
theorem g_3_9 : wFP 3 9 (.array .int) true := ⟨RX3, TX3, 10, tyX3, rfl, tyX3_ok, nmX3, rfl, by decide +kernel⟩
theorem g_4_0 : wFP 4 0 .int false := ⟨RX4, TX4, 8, tyX4, rfl, tyX4_ok, nmX4, rfl, by decide +kernel⟩
theorem g_4_1 : wFP 4 1 .int false := ⟨RX4, TX4, 8, tyX4, rfl, tyX4_ok, nmX4, rfl, by decide +kernel⟩
theorem g_4_2 : wFP 4 2 (.array .int) true := ⟨RX4, TX4, 8, tyX4, rfl, tyX4_ok, nmX4, rfl, by decide +kernel⟩
theorem g_4_3 : wFP 4 3 (.array .int) true := ⟨RX4, TX4, 8, tyX4, rfl, tyX4_ok, nmX4, rfl, by decide +kernel⟩
theorem g_4_4 : wFP 4 4 (.array .int) true := ⟨RX4, TX4, 8, tyX4, rfl, tyX4_ok, nmX4, rfl, by decide +kernel⟩
theorem g_4_5 : wFP 4 5 (.array .boolean) true := ⟨RX4, TX4, 8, tyX4, rfl, tyX4_ok, nmX4, rfl, by decide +kernel⟩
theorem g_4_6 : wFP 4 6 (.array .int) true := ⟨RX4, TX4, 8, tyX4, rfl, tyX4_ok, nmX4, rfl, by decide +kernel⟩
theorem g_4_7 : wFP 4 7 (.array .boolean) true := ⟨RX4, TX4, 8, tyX4, rfl, tyX4_ok, nmX4, rfl, by decide +kernel⟩
theorem g_5_0 : wFP 5 0 .int false := ⟨RX5, TX5, 12, tyX5, rfl, tyX5_ok, nmX5, rfl, by decide +kernel⟩
theorem g_5_1 : wFP 5 1 .int false := ⟨RX5, TX5, 12, tyX5, rfl, tyX5_ok, nmX5, rfl, by decide +kernel⟩
theorem g_5_2 : wFP 5 2 .int false := ⟨RX5, TX5, 12, tyX5, rfl, tyX5_ok, nmX5, rfl, by decide +kernel⟩
theorem g_5_3 : wFP 5 3 (.array .byte) true := ⟨RX5, TX5, 12, tyX5, rfl, tyX5_ok, nmX5, rfl, by decide +kernel⟩
theorem g_5_4 : wFP 5 4 .int false := ⟨RX5, TX5, 12, tyX5, rfl, tyX5_ok, nmX5, rfl, by decide +kernel⟩
theorem g_5_5 : wFP 5 5 .int false := ⟨RX5, TX5, 12, tyX5, rfl, tyX5_ok, nmX5, rfl, by decide +kernel⟩
theorem g_5_6 : wFP 5 6 .int false := ⟨RX5, TX5, 12, tyX5, rfl, tyX5_ok, nmX5, rfl, by decide +kernel⟩
theorem g_5_7 : wFP 5 7 .int false := ⟨RX5, TX5, 12, tyX5, rfl, tyX5_ok, nmX5, rfl, by decide +kernel⟩
theorem g_5_8 : wFP 5 8 (.array .int) true := ⟨RX5, TX5, 12, tyX5, rfl, tyX5_ok, nmX5, rfl, by decide +kernel⟩
theorem g_5_9 : wFP 5 9 (.array .int) true := ⟨RX5, TX5, 12, tyX5, rfl, tyX5_ok, nmX5, rfl, by decide +kernel⟩
theorem g_5_10 : wFP 5 10 (.array .int) true := ⟨RX5, TX5, 12, tyX5, rfl, tyX5_ok, nmX5, rfl, by decide +kernel⟩
theorem g_5_11 : wFP 5 11 (.array .int) true := ⟨RX5, TX5, 12, tyX5, rfl, tyX5_ok, nmX5, rfl, by decide +kernel⟩
theorem g_6_0 : wFP 6 0 .int false := ⟨RX6, TX6, 17, tyX6, rfl, tyX6_ok, nmX6, rfl, by decide +kernel⟩
theorem g_6_1 : wFP 6 1 .int false := ⟨RX6, TX6, 17, tyX6, rfl, tyX6_ok, nmX6, rfl, by decide +kernel⟩
theorem g_6_2 : wFP 6 2 .int false := ⟨RX6, TX6, 17, tyX6, rfl, tyX6_ok, nmX6, rfl, by decide +kernel⟩
theorem g_6_3 : wFP 6 3 .int false := ⟨RX6, TX6, 17, tyX6, rfl, tyX6_ok, nmX6, rfl, by decide +kernel⟩
theorem g_6_4 : wFP 6 4 .int false := ⟨RX6, TX6, 17, tyX6, rfl, tyX6_ok, nmX6, rfl, by decide +kernel⟩
theorem g_6_5 : wFP 6 5 .int false := ⟨RX6, TX6, 17, tyX6, rfl, tyX6_ok, nmX6, rfl, by decide +kernel⟩
theorem g_6_6 : wFP 6 6 .int false := ⟨RX6, TX6, 17, tyX6, rfl, tyX6_ok, nmX6, rfl, by decide +kernel⟩
theorem g_6_7 : wFP 6 7 (.array .int) true := ⟨RX6, TX6, 17, tyX6, rfl, tyX6_ok, nmX6, rfl, by decide +kernel⟩
theorem g_6_8 : wFP 6 8 (.array .int) true := ⟨RX6, TX6, 17, tyX6, rfl, tyX6_ok, nmX6, rfl, by decide +kernel⟩
theorem g_6_9 : wFP 6 9 (.array .int) true := ⟨RX6, TX6, 17, tyX6, rfl, tyX6_ok, nmX6, rfl, by decide +kernel⟩
theorem g_6_10 : wFP 6 10 (.array .int) true := ⟨RX6, TX6, 17, tyX6, rfl, tyX6_ok, nmX6, rfl, by decide +kernel⟩
theorem g_6_11 : wFP 6 11 (.array .int) true := ⟨RX6, TX6, 17, tyX6, rfl, tyX6_ok, nmX6, rfl, by decide +kernel⟩
theorem g_6_12 : wFP 6 12 (.array .int) true := ⟨RX6, TX6, 17, tyX6, rfl, tyX6_ok, nmX6, rfl, by decide +kernel⟩
theorem g_6_13 : wFP 6 13 (.array .int) true := ⟨RX6, TX6, 17, tyX6, rfl, tyX6_ok, nmX6, rfl, by decide +kernel⟩
theorem g_6_14 : wFP 6 14 (.array .int) true := ⟨RX6, TX6, 17, tyX6, rfl, tyX6_ok, nmX6, rfl, by decide +kernel⟩
theorem g_6_15 : wFP 6 15 (.array .int) true := ⟨RX6, TX6, 17, tyX6, rfl, tyX6_ok, nmX6, rfl, by decide +kernel⟩
theorem g_6_16 : wFP 6 16 (.object "WaxBowl$Laws") true := ⟨RX6, TX6, 17, tyX6, rfl, tyX6_ok, nmX6, rfl, by decide +kernel⟩
theorem g_7_0 : wFP 7 0 .int false := ⟨RX7, TX7, 4, tyX7, rfl, tyX7_ok, nmX7, rfl, by decide +kernel⟩
theorem g_7_1 : wFP 7 1 (.array .int) true := ⟨RX7, TX7, 4, tyX7, rfl, tyX7_ok, nmX7, rfl, by decide +kernel⟩
theorem g_7_2 : wFP 7 2 (.array .int) true := ⟨RX7, TX7, 4, tyX7, rfl, tyX7_ok, nmX7, rfl, by decide +kernel⟩
theorem g_7_3 : wFP 7 3 (.array .int) true := ⟨RX7, TX7, 4, tyX7, rfl, tyX7_ok, nmX7, rfl, by decide +kernel⟩
theorem g_8_0 : wFP 8 0 (.array .byte) true := ⟨RX8, TX8, 14, tyX8, rfl, tyX8_ok, nmX8, rfl, by decide +kernel⟩
theorem g_8_1 : wFP 8 1 .int false := ⟨RX8, TX8, 14, tyX8, rfl, tyX8_ok, nmX8, rfl, by decide +kernel⟩
theorem g_8_2 : wFP 8 2 (.object "WaxBowl$Told") false := ⟨RX8, TX8, 14, tyX8, rfl, tyX8_ok, nmX8, rfl, by decide +kernel⟩
theorem g_8_3 : wFP 8 3 (.object "WaxBowl$Told") false := ⟨RX8, TX8, 14, tyX8, rfl, tyX8_ok, nmX8, rfl, by decide +kernel⟩
theorem g_8_4 : wFP 8 4 (.object "WaxBowl$Reader") true := ⟨RX8, TX8, 14, tyX8, rfl, tyX8_ok, nmX8, rfl, by decide +kernel⟩
theorem g_8_5 : wFP 8 5 (.object "WaxBowl$Scene") true := ⟨RX8, TX8, 14, tyX8, rfl, tyX8_ok, nmX8, rfl, by decide +kernel⟩
theorem g_8_6 : wFP 8 6 (.object "WaxBowl$Scene") true := ⟨RX8, TX8, 14, tyX8, rfl, tyX8_ok, nmX8, rfl, by decide +kernel⟩
theorem g_8_7 : wFP 8 7 (.object "WaxBowl$Scene") true := ⟨RX8, TX8, 14, tyX8, rfl, tyX8_ok, nmX8, rfl, by decide +kernel⟩
theorem g_8_8 : wFP 8 8 .boolean false := ⟨RX8, TX8, 14, tyX8, rfl, tyX8_ok, nmX8, rfl, by decide +kernel⟩
theorem g_8_9 : wFP 8 9 (.object "WaxBowl$Course") true := ⟨RX8, TX8, 14, tyX8, rfl, tyX8_ok, nmX8, rfl, by decide +kernel⟩
theorem g_8_10 : wFP 8 10 (.object "WaxBowl$Undos") true := ⟨RX8, TX8, 14, tyX8, rfl, tyX8_ok, nmX8, rfl, by decide +kernel⟩
theorem g_8_11 : wFP 8 11 (.object "WaxBowl$Sights") true := ⟨RX8, TX8, 14, tyX8, rfl, tyX8_ok, nmX8, rfl, by decide +kernel⟩
theorem g_8_12 : wFP 8 12 (.array .int) true := ⟨RX8, TX8, 14, tyX8, rfl, tyX8_ok, nmX8, rfl, by decide +kernel⟩
theorem g_8_13 : wFP 8 13 (.array .int) true := ⟨RX8, TX8, 14, tyX8, rfl, tyX8_ok, nmX8, rfl, by decide +kernel⟩
theorem g_9_0 : wFP 9 0 (.array .int) true := ⟨RX9, TX9, 80, tyX9, rfl, tyX9_ok, nmX9, rfl, by decide +kernel⟩
theorem g_9_1 : wFP 9 1 .int false := ⟨RX9, TX9, 80, tyX9, rfl, tyX9_ok, nmX9, rfl, by decide +kernel⟩
theorem g_9_2 : wFP 9 2 .int false := ⟨RX9, TX9, 80, tyX9, rfl, tyX9_ok, nmX9, rfl, by decide +kernel⟩
theorem g_9_3 : wFP 9 3 (.array .int) true := ⟨RX9, TX9, 80, tyX9, rfl, tyX9_ok, nmX9, rfl, by decide +kernel⟩
theorem g_9_4 : wFP 9 4 .int false := ⟨RX9, TX9, 80, tyX9, rfl, tyX9_ok, nmX9, rfl, by decide +kernel⟩
theorem g_9_5 : wFP 9 5 .int false := ⟨RX9, TX9, 80, tyX9, rfl, tyX9_ok, nmX9, rfl, by decide +kernel⟩
theorem g_9_6 : wFP 9 6 .int false := ⟨RX9, TX9, 80, tyX9, rfl, tyX9_ok, nmX9, rfl, by decide +kernel⟩
theorem g_9_7 : wFP 9 7 .int false := ⟨RX9, TX9, 80, tyX9, rfl, tyX9_ok, nmX9, rfl, by decide +kernel⟩
theorem g_9_8 : wFP 9 8 .int false := ⟨RX9, TX9, 80, tyX9, rfl, tyX9_ok, nmX9, rfl, by decide +kernel⟩
theorem g_9_9 : wFP 9 9 .int false := ⟨RX9, TX9, 80, tyX9, rfl, tyX9_ok, nmX9, rfl, by decide +kernel⟩
theorem g_9_10 : wFP 9 10 .int false := ⟨RX9, TX9, 80, tyX9, rfl, tyX9_ok, nmX9, rfl, by decide +kernel⟩
theorem g_9_11 : wFP 9 11 .int false := ⟨RX9, TX9, 80, tyX9, rfl, tyX9_ok, nmX9, rfl, by decide +kernel⟩
theorem g_9_12 : wFP 9 12 .int false := ⟨RX9, TX9, 80, tyX9, rfl, tyX9_ok, nmX9, rfl, by decide +kernel⟩
theorem g_9_13 : wFP 9 13 .int false := ⟨RX9, TX9, 80, tyX9, rfl, tyX9_ok, nmX9, rfl, by decide +kernel⟩
theorem g_9_14 : wFP 9 14 .int false := ⟨RX9, TX9, 80, tyX9, rfl, tyX9_ok, nmX9, rfl, by decide +kernel⟩
theorem g_9_15 : wFP 9 15 .int false := ⟨RX9, TX9, 80, tyX9, rfl, tyX9_ok, nmX9, rfl, by decide +kernel⟩
theorem g_9_16 : wFP 9 16 .int false := ⟨RX9, TX9, 80, tyX9, rfl, tyX9_ok, nmX9, rfl, by decide +kernel⟩
theorem g_9_17 : wFP 9 17 .int false := ⟨RX9, TX9, 80, tyX9, rfl, tyX9_ok, nmX9, rfl, by decide +kernel⟩
theorem g_9_18 : wFP 9 18 .int false := ⟨RX9, TX9, 80, tyX9, rfl, tyX9_ok, nmX9, rfl, by decide +kernel⟩
theorem g_9_19 : wFP 9 19 .int false := ⟨RX9, TX9, 80, tyX9, rfl, tyX9_ok, nmX9, rfl, by decide +kernel⟩
theorem g_9_20 : wFP 9 20 (.array .boolean) true := ⟨RX9, TX9, 80, tyX9, rfl, tyX9_ok, nmX9, rfl, by decide +kernel⟩
theorem g_9_21 : wFP 9 21 (.array .int) true := ⟨RX9, TX9, 80, tyX9, rfl, tyX9_ok, nmX9, rfl, by decide +kernel⟩
theorem g_9_22 : wFP 9 22 (.array .int) true := ⟨RX9, TX9, 80, tyX9, rfl, tyX9_ok, nmX9, rfl, by decide +kernel⟩
theorem g_9_23 : wFP 9 23 (.array .int) true := ⟨RX9, TX9, 80, tyX9, rfl, tyX9_ok, nmX9, rfl, by decide +kernel⟩
theorem g_9_24 : wFP 9 24 (.array .int) true := ⟨RX9, TX9, 80, tyX9, rfl, tyX9_ok, nmX9, rfl, by decide +kernel⟩
theorem g_9_25 : wFP 9 25 (.array .int) true := ⟨RX9, TX9, 80, tyX9, rfl, tyX9_ok, nmX9, rfl, by decide +kernel⟩
theorem g_9_26 : wFP 9 26 (.array .int) true := ⟨RX9, TX9, 80, tyX9, rfl, tyX9_ok, nmX9, rfl, by decide +kernel⟩
theorem g_9_27 : wFP 9 27 (.array .int) true := ⟨RX9, TX9, 80, tyX9, rfl, tyX9_ok, nmX9, rfl, by decide +kernel⟩
theorem g_9_28 : wFP 9 28 (.array .int) true := ⟨RX9, TX9, 80, tyX9, rfl, tyX9_ok, nmX9, rfl, by decide +kernel⟩
theorem g_9_29 : wFP 9 29 (.array .int) true := ⟨RX9, TX9, 80, tyX9, rfl, tyX9_ok, nmX9, rfl, by decide +kernel⟩
theorem g_9_30 : wFP 9 30 (.array .int) true := ⟨RX9, TX9, 80, tyX9, rfl, tyX9_ok, nmX9, rfl, by decide +kernel⟩
theorem g_9_31 : wFP 9 31 (.array .boolean) true := ⟨RX9, TX9, 80, tyX9, rfl, tyX9_ok, nmX9, rfl, by decide +kernel⟩
theorem g_9_32 : wFP 9 32 (.array .int) true := ⟨RX9, TX9, 80, tyX9, rfl, tyX9_ok, nmX9, rfl, by decide +kernel⟩
theorem g_9_33 : wFP 9 33 (.array .int) true := ⟨RX9, TX9, 80, tyX9, rfl, tyX9_ok, nmX9, rfl, by decide +kernel⟩
theorem g_9_34 : wFP 9 34 (.array .int) true := ⟨RX9, TX9, 80, tyX9, rfl, tyX9_ok, nmX9, rfl, by decide +kernel⟩
theorem g_9_35 : wFP 9 35 (.array .int) true := ⟨RX9, TX9, 80, tyX9, rfl, tyX9_ok, nmX9, rfl, by decide +kernel⟩
theorem g_9_36 : wFP 9 36 (.array .int) true := ⟨RX9, TX9, 80, tyX9, rfl, tyX9_ok, nmX9, rfl, by decide +kernel⟩
theorem g_9_37 : wFP 9 37 (.array .int) true := ⟨RX9, TX9, 80, tyX9, rfl, tyX9_ok, nmX9, rfl, by decide +kernel⟩
theorem g_9_38 : wFP 9 38 (.array .int) true := ⟨RX9, TX9, 80, tyX9, rfl, tyX9_ok, nmX9, rfl, by decide +kernel⟩
theorem g_9_39 : wFP 9 39 (.array .int) true := ⟨RX9, TX9, 80, tyX9, rfl, tyX9_ok, nmX9, rfl, by decide +kernel⟩
theorem g_9_40 : wFP 9 40 .int false := ⟨RX9, TX9, 80, tyX9, rfl, tyX9_ok, nmX9, rfl, by decide +kernel⟩
theorem g_9_41 : wFP 9 41 .int false := ⟨RX9, TX9, 80, tyX9, rfl, tyX9_ok, nmX9, rfl, by decide +kernel⟩
theorem g_9_42 : wFP 9 42 .int false := ⟨RX9, TX9, 80, tyX9, rfl, tyX9_ok, nmX9, rfl, by decide +kernel⟩
theorem g_9_43 : wFP 9 43 .int false := ⟨RX9, TX9, 80, tyX9, rfl, tyX9_ok, nmX9, rfl, by decide +kernel⟩
theorem g_9_44 : wFP 9 44 .boolean false := ⟨RX9, TX9, 80, tyX9, rfl, tyX9_ok, nmX9, rfl, by decide +kernel⟩
theorem g_9_45 : wFP 9 45 .boolean false := ⟨RX9, TX9, 80, tyX9, rfl, tyX9_ok, nmX9, rfl, by decide +kernel⟩
theorem g_9_46 : wFP 9 46 (.array .long) true := ⟨RX9, TX9, 80, tyX9, rfl, tyX9_ok, nmX9, rfl, by decide +kernel⟩
theorem g_9_47 : wFP 9 47 (.array .long) true := ⟨RX9, TX9, 80, tyX9, rfl, tyX9_ok, nmX9, rfl, by decide +kernel⟩
theorem g_9_48 : wFP 9 48 .boolean false := ⟨RX9, TX9, 80, tyX9, rfl, tyX9_ok, nmX9, rfl, by decide +kernel⟩
theorem g_9_49 : wFP 9 49 (.array .int) true := ⟨RX9, TX9, 80, tyX9, rfl, tyX9_ok, nmX9, rfl, by decide +kernel⟩
theorem g_9_50 : wFP 9 50 (.array .int) true := ⟨RX9, TX9, 80, tyX9, rfl, tyX9_ok, nmX9, rfl, by decide +kernel⟩
theorem g_9_51 : wFP 9 51 (.array .int) true := ⟨RX9, TX9, 80, tyX9, rfl, tyX9_ok, nmX9, rfl, by decide +kernel⟩
theorem g_9_52 : wFP 9 52 (.array .boolean) true := ⟨RX9, TX9, 80, tyX9, rfl, tyX9_ok, nmX9, rfl, by decide +kernel⟩
theorem g_9_53 : wFP 9 53 (.array .int) true := ⟨RX9, TX9, 80, tyX9, rfl, tyX9_ok, nmX9, rfl, by decide +kernel⟩
theorem g_9_54 : wFP 9 54 (.array .int) true := ⟨RX9, TX9, 80, tyX9, rfl, tyX9_ok, nmX9, rfl, by decide +kernel⟩
theorem g_9_55 : wFP 9 55 (.array .boolean) true := ⟨RX9, TX9, 80, tyX9, rfl, tyX9_ok, nmX9, rfl, by decide +kernel⟩
theorem g_9_56 : wFP 9 56 (.array .int) true := ⟨RX9, TX9, 80, tyX9, rfl, tyX9_ok, nmX9, rfl, by decide +kernel⟩
theorem g_9_57 : wFP 9 57 (.array .int) true := ⟨RX9, TX9, 80, tyX9, rfl, tyX9_ok, nmX9, rfl, by decide +kernel⟩
theorem g_9_58 : wFP 9 58 .long false := ⟨RX9, TX9, 80, tyX9, rfl, tyX9_ok, nmX9, rfl, by decide +kernel⟩
theorem g_9_59 : wFP 9 59 .int false := ⟨RX9, TX9, 80, tyX9, rfl, tyX9_ok, nmX9, rfl, by decide +kernel⟩
theorem g_9_60 : wFP 9 60 .boolean false := ⟨RX9, TX9, 80, tyX9, rfl, tyX9_ok, nmX9, rfl, by decide +kernel⟩
theorem g_9_61 : wFP 9 61 .boolean false := ⟨RX9, TX9, 80, tyX9, rfl, tyX9_ok, nmX9, rfl, by decide +kernel⟩
theorem g_9_62 : wFP 9 62 .boolean false := ⟨RX9, TX9, 80, tyX9, rfl, tyX9_ok, nmX9, rfl, by decide +kernel⟩
theorem g_9_63 : wFP 9 63 .boolean false := ⟨RX9, TX9, 80, tyX9, rfl, tyX9_ok, nmX9, rfl, by decide +kernel⟩
theorem g_9_64 : wFP 9 64 .boolean false := ⟨RX9, TX9, 80, tyX9, rfl, tyX9_ok, nmX9, rfl, by decide +kernel⟩
theorem g_9_65 : wFP 9 65 .int false := ⟨RX9, TX9, 80, tyX9, rfl, tyX9_ok, nmX9, rfl, by decide +kernel⟩
theorem g_9_66 : wFP 9 66 .int false := ⟨RX9, TX9, 80, tyX9, rfl, tyX9_ok, nmX9, rfl, by decide +kernel⟩
theorem g_9_67 : wFP 9 67 .int false := ⟨RX9, TX9, 80, tyX9, rfl, tyX9_ok, nmX9, rfl, by decide +kernel⟩
theorem g_9_68 : wFP 9 68 .int false := ⟨RX9, TX9, 80, tyX9, rfl, tyX9_ok, nmX9, rfl, by decide +kernel⟩
theorem g_9_69 : wFP 9 69 (.array .int) true := ⟨RX9, TX9, 80, tyX9, rfl, tyX9_ok, nmX9, rfl, by decide +kernel⟩
theorem g_9_70 : wFP 9 70 .int false := ⟨RX9, TX9, 80, tyX9, rfl, tyX9_ok, nmX9, rfl, by decide +kernel⟩
theorem g_9_71 : wFP 9 71 .int false := ⟨RX9, TX9, 80, tyX9, rfl, tyX9_ok, nmX9, rfl, by decide +kernel⟩
theorem g_9_72 : wFP 9 72 (.array .int) true := ⟨RX9, TX9, 80, tyX9, rfl, tyX9_ok, nmX9, rfl, by decide +kernel⟩
theorem g_9_73 : wFP 9 73 (.array .boolean) true := ⟨RX9, TX9, 80, tyX9, rfl, tyX9_ok, nmX9, rfl, by decide +kernel⟩
theorem g_9_74 : wFP 9 74 .int false := ⟨RX9, TX9, 80, tyX9, rfl, tyX9_ok, nmX9, rfl, by decide +kernel⟩
theorem g_9_75 : wFP 9 75 (.array .int) true := ⟨RX9, TX9, 80, tyX9, rfl, tyX9_ok, nmX9, rfl, by decide +kernel⟩
theorem g_9_76 : wFP 9 76 .boolean false := ⟨RX9, TX9, 80, tyX9, rfl, tyX9_ok, nmX9, rfl, by decide +kernel⟩
theorem g_9_77 : wFP 9 77 (.array .int) true := ⟨RX9, TX9, 80, tyX9, rfl, tyX9_ok, nmX9, rfl, by decide +kernel⟩
theorem g_9_78 : wFP 9 78 (.array .int) true := ⟨RX9, TX9, 80, tyX9, rfl, tyX9_ok, nmX9, rfl, by decide +kernel⟩
theorem g_9_79 : wFP 9 79 .long false := ⟨RX9, TX9, 80, tyX9, rfl, tyX9_ok, nmX9, rfl, by decide +kernel⟩
theorem y_X0_init : wYc yX0_init cX0_init 2 none 1 := ⟨lw_in (tb_2 _ (List.mem_of_getElem? (i := 115) rfl)) rfl, lw_in (tb_1 _ (List.mem_of_getElem? (i := 11) rfl)) rfl, by decide, by decide, by decide +kernel⟩
theorem y_X0_begin : wYc yX0_begin cX0_begin 3 none 2 := ⟨lw_in (tb_3 _ (List.mem_of_getElem? (i := 224) rfl)) rfl, lw_in (tb_1 _ (List.mem_of_getElem? (i := 11) rfl)) rfl, by decide, by decide, by decide +kernel⟩
theorem v_X0_begin : wYi yX0_begin 0 := ⟨⟨lw_in (tb_3 _ (List.mem_of_getElem? (i := 222) rfl)) rfl, lw_in (tb_3 _ (List.mem_of_getElem? (i := 223) rfl)) rfl⟩, _, rfl, by decide, rfl⟩
theorem y_X0_run : wYc yX0_run cX0_run 4 none 2 := ⟨lw_in (tb_4 _ (List.mem_of_getElem? (i := 68) rfl)) rfl, lw_in (tb_1 _ (List.mem_of_getElem? (i := 11) rfl)) rfl, by decide, by decide, by decide +kernel⟩
theorem v_X0_run : wYi yX0_run 0 := ⟨⟨lw_in (tb_4 _ (List.mem_of_getElem? (i := 66) rfl)) rfl, lw_in (tb_4 _ (List.mem_of_getElem? (i := 67) rfl)) rfl⟩, _, rfl, by decide, rfl⟩
theorem y_X0_goOn : wYc yX0_goOn cX0_goOn 5 (some .int) 1 := ⟨lw_in (tb_4 _ (List.mem_of_getElem? (i := 72) rfl)) rfl, lw_in (tb_1 _ (List.mem_of_getElem? (i := 11) rfl)) rfl, by decide, by decide, by decide +kernel⟩
theorem v_X0_goOn : wYi yX0_goOn 0 := ⟨⟨lw_in (tb_4 _ (List.mem_of_getElem? (i := 70) rfl)) rfl, lw_in (tb_4 _ (List.mem_of_getElem? (i := 71) rfl)) rfl⟩, _, rfl, by decide, rfl⟩
theorem y_X0_guestAtBowl : wYc yX0_guestAtBowl cX0_guestAtBowl 4 (some .int) 1 := ⟨lw_in (tb_4 _ (List.mem_of_getElem? (i := 76) rfl)) rfl, lw_in (tb_1 _ (List.mem_of_getElem? (i := 11) rfl)) rfl, by decide, by decide, by decide +kernel⟩
theorem v_X0_guestAtBowl : wYi yX0_guestAtBowl 0 := ⟨⟨lw_in (tb_4 _ (List.mem_of_getElem? (i := 74) rfl)) rfl, lw_in (tb_4 _ (List.mem_of_getElem? (i := 75) rfl)) rfl⟩, _, rfl, by decide, rfl⟩
theorem y_X0_fruitOnTop : wYc yX0_fruitOnTop cX0_fruitOnTop 2 (some .int) 1 := ⟨lw_in (tb_4 _ (List.mem_of_getElem? (i := 84) rfl)) rfl, lw_in (tb_1 _ (List.mem_of_getElem? (i := 11) rfl)) rfl, by decide, by decide, by decide +kernel⟩
theorem v_X0_fruitOnTop : wYi yX0_fruitOnTop 0 := ⟨⟨lw_in (tb_4 _ (List.mem_of_getElem? (i := 82) rfl)) rfl, lw_in (tb_4 _ (List.mem_of_getElem? (i := 83) rfl)) rfl⟩, _, rfl, by decide, rfl⟩
theorem y_X0_sits : wYc yX0_sits cX0_sits 3 (some .boolean) 2 := ⟨lw_in (tb_4 _ (List.mem_of_getElem? (i := 80) rfl)) rfl, lw_in (tb_1 _ (List.mem_of_getElem? (i := 11) rfl)) rfl, by decide, by decide, by decide +kernel⟩
theorem v_X0_sits : wYi yX0_sits 0 := ⟨⟨lw_in (tb_4 _ (List.mem_of_getElem? (i := 78) rfl)) rfl, lw_in (tb_4 _ (List.mem_of_getElem? (i := 79) rfl)) rfl⟩, _, rfl, by decide, rfl⟩
theorem y_X0_sitting : wYc yX0_sitting cX0_sitting 2 (some .int) 1 := ⟨lw_in (tb_3 _ (List.mem_of_getElem? (i := 238) rfl)) rfl, lw_in (tb_1 _ (List.mem_of_getElem? (i := 11) rfl)) rfl, by decide, by decide, by decide +kernel⟩
theorem v_X0_sitting : wYi yX0_sitting 0 := ⟨⟨lw_in (tb_3 _ (List.mem_of_getElem? (i := 236) rfl)) rfl, lw_in (tb_3 _ (List.mem_of_getElem? (i := 237) rfl)) rfl⟩, _, rfl, by decide, rfl⟩
theorem y_X0_seatsBetween : wYc yX0_seatsBetween cX0_seatsBetween 5 (some .int) 3 := ⟨lw_in (tb_4 _ (List.mem_of_getElem? (i := 110) rfl)) rfl, lw_in (tb_1 _ (List.mem_of_getElem? (i := 11) rfl)) rfl, by decide, by decide, by decide +kernel⟩
theorem v_X0_seatsBetween : wYi yX0_seatsBetween 0 := ⟨⟨lw_in (tb_4 _ (List.mem_of_getElem? (i := 108) rfl)) rfl, lw_in (tb_4 _ (List.mem_of_getElem? (i := 109) rfl)) rfl⟩, _, rfl, by decide, rfl⟩
theorem y_X0_hears : wYc yX0_hears cX0_hears 4 (some .boolean) 3 := ⟨lw_in (tb_4 _ (List.mem_of_getElem? (i := 106) rfl)) rfl, lw_in (tb_1 _ (List.mem_of_getElem? (i := 11) rfl)) rfl, by decide, by decide, by decide +kernel⟩
theorem v_X0_hears : wYi yX0_hears 0 := ⟨⟨lw_in (tb_4 _ (List.mem_of_getElem? (i := 104) rfl)) rfl, lw_in (tb_4 _ (List.mem_of_getElem? (i := 105) rfl)) rfl⟩, _, rfl, by decide, rfl⟩
theorem y_X0_hearers : wYc yX0_hearers cX0_hearers 5 (some .int) 2 := ⟨lw_in (tb_5 _ (List.mem_of_getElem? (i := 77) rfl)) rfl, lw_in (tb_1 _ (List.mem_of_getElem? (i := 11) rfl)) rfl, by decide, by decide, by decide +kernel⟩
theorem v_X0_hearers : wYi yX0_hearers 0 := ⟨⟨lw_in (tb_5 _ (List.mem_of_getElem? (i := 75) rfl)) rfl, lw_in (tb_5 _ (List.mem_of_getElem? (i := 76) rfl)) rfl⟩, _, rfl, by decide, rfl⟩
theorem y_X0_workOut : wYc yX0_workOut cX0_workOut 5 (some .long) 4 := ⟨lw_in (tb_3 _ (List.mem_of_getElem? (i := 228) rfl)) rfl, lw_in (tb_1 _ (List.mem_of_getElem? (i := 11) rfl)) rfl, by decide, by decide, by decide +kernel⟩
theorem v_X0_workOut : wYi yX0_workOut 0 := ⟨⟨lw_in (tb_3 _ (List.mem_of_getElem? (i := 226) rfl)) rfl, lw_in (tb_3 _ (List.mem_of_getElem? (i := 227) rfl)) rfl⟩, _, rfl, by decide, rfl⟩
theorem y_X0_sweetOf : wYc yX0_sweetOf cX0_sweetOf 2 (some .int) 1 := ⟨lw_in (tb_3 _ (List.mem_of_getElem? (i := 234) rfl)) rfl, lw_in (tb_1 _ (List.mem_of_getElem? (i := 11) rfl)) rfl, by decide, by decide, by decide +kernel⟩
theorem v_X0_sweetOf : wYi yX0_sweetOf 0 := ⟨⟨lw_in (tb_3 _ (List.mem_of_getElem? (i := 233) rfl)) rfl, lw_at 28 (by decide +kernel) rfl⟩, _, rfl, by decide, rfl⟩
theorem y_X0_bites : wYc yX0_bites cX0_bites 6 (some .boolean) 3 := ⟨lw_in (tb_4 _ (List.mem_of_getElem? (i := 88) rfl)) rfl, lw_in (tb_1 _ (List.mem_of_getElem? (i := 11) rfl)) rfl, by decide, by decide, by decide +kernel⟩
theorem v_X0_bites : wYi yX0_bites 0 := ⟨⟨lw_in (tb_4 _ (List.mem_of_getElem? (i := 87) rfl)) rfl, lw_at 32 (by decide +kernel) rfl⟩, _, rfl, by decide, rfl⟩
theorem y_X0_bite : wYc yX0_bite cX0_bite 5 none 3 := ⟨lw_in (tb_4 _ (List.mem_of_getElem? (i := 97) rfl)) rfl, lw_in (tb_1 _ (List.mem_of_getElem? (i := 11) rfl)) rfl, by decide, by decide, by decide +kernel⟩
theorem v_X0_bite : wYi yX0_bite 0 := ⟨⟨lw_in (tb_4 _ (List.mem_of_getElem? (i := 96) rfl)) rfl, lw_at 33 (by decide +kernel) rfl⟩, _, rfl, by decide, rfl⟩
theorem y_X0_shockOf : wYc yX0_shockOf cX0_shockOf 6 (some .int) 3 := ⟨lw_in (tb_4 _ (List.mem_of_getElem? (i := 118) rfl)) rfl, lw_in (tb_1 _ (List.mem_of_getElem? (i := 11) rfl)) rfl, by decide, by decide, by decide +kernel⟩
theorem v_X0_shockOf : wYi yX0_shockOf 0 := ⟨⟨lw_in (tb_4 _ (List.mem_of_getElem? (i := 117) rfl)) rfl, lw_at 34 (by decide +kernel) rfl⟩, _, rfl, by decide, rfl⟩
theorem y_X0_praiseOf : wYc yX0_praiseOf cX0_praiseOf 6 (some .int) 3 := ⟨lw_in (tb_4 _ (List.mem_of_getElem? (i := 137) rfl)) rfl, lw_in (tb_1 _ (List.mem_of_getElem? (i := 11) rfl)) rfl, by decide, by decide, by decide +kernel⟩
theorem v_X0_praiseOf : wYi yX0_praiseOf 0 := ⟨⟨lw_in (tb_4 _ (List.mem_of_getElem? (i := 136) rfl)) rfl, lw_at 36 (by decide +kernel) rfl⟩, _, rfl, by decide, rfl⟩
theorem y_X0_within99 : wYc yX0_within99 cX0_within99 2 (some .int) 1 := ⟨lw_in (tb_4 _ (List.mem_of_getElem? (i := 121) rfl)) rfl, lw_in (tb_1 _ (List.mem_of_getElem? (i := 11) rfl)) rfl, by decide, by decide, by decide +kernel⟩
theorem v_X0_within99 : Cond.static yX0_within99 ∈ lw_tb := lw_in (tb_4 _ (List.mem_of_getElem? (i := 120) rfl)) rfl
theorem y_X0_praise : wYc yX0_praise cX0_praise 7 none 3 := ⟨lw_in (tb_4 _ (List.mem_of_getElem? (i := 133) rfl)) rfl, lw_in (tb_1 _ (List.mem_of_getElem? (i := 11) rfl)) rfl, by decide, by decide, by decide +kernel⟩
theorem v_X0_praise : wYi yX0_praise 0 := ⟨⟨lw_in (tb_4 _ (List.mem_of_getElem? (i := 132) rfl)) rfl, lw_at 35 (by decide +kernel) rfl⟩, _, rfl, by decide, rfl⟩
theorem y_X0_wouldFeed : wYc yX0_wouldFeed cX0_wouldFeed 7 (some .int) 3 := ⟨lw_in (tb_5 _ (List.mem_of_getElem? (i := 2) rfl)) rfl, lw_in (tb_1 _ (List.mem_of_getElem? (i := 11) rfl)) rfl, by decide, by decide, by decide +kernel⟩
theorem v_X0_wouldFeed : wYi yX0_wouldFeed 0 := ⟨⟨lw_in (tb_5 _ (List.mem_of_getElem? (i := 0) rfl)) rfl, lw_in (tb_5 _ (List.mem_of_getElem? (i := 1) rfl)) rfl⟩, _, rfl, by decide, rfl⟩
theorem y_X0_growHungry : wYc yX0_growHungry cX0_growHungry 3 none 1 := ⟨lw_in (tb_4 _ (List.mem_of_getElem? (i := 141) rfl)) rfl, lw_in (tb_1 _ (List.mem_of_getElem? (i := 11) rfl)) rfl, by decide, by decide, by decide +kernel⟩
theorem v_X0_growHungry : wYi yX0_growHungry 0 := ⟨⟨lw_in (tb_4 _ (List.mem_of_getElem? (i := 140) rfl)) rfl, lw_at 37 (by decide +kernel) rfl⟩, _, rfl, by decide, rfl⟩
theorem y_X0_feelsDraught : wYc yX0_feelsDraught cX0_feelsDraught 2 (some .boolean) 1 := ⟨lw_in (tb_4 _ (List.mem_of_getElem? (i := 145) rfl)) rfl, lw_in (tb_1 _ (List.mem_of_getElem? (i := 11) rfl)) rfl, by decide, by decide, by decide +kernel⟩
theorem v_X0_feelsDraught : wYi yX0_feelsDraught 0 := ⟨⟨lw_in (tb_4 _ (List.mem_of_getElem? (i := 144) rfl)) rfl, lw_at 38 (by decide +kernel) rfl⟩, _, rfl, by decide, rfl⟩
theorem y_X0_fall : wYc yX0_fall cX0_fall 3 none 1 := ⟨lw_in (tb_4 _ (List.mem_of_getElem? (i := 157) rfl)) rfl, lw_in (tb_1 _ (List.mem_of_getElem? (i := 11) rfl)) rfl, by decide, by decide, by decide +kernel⟩
theorem v_X0_fall : wYi yX0_fall 0 := ⟨⟨lw_in (tb_4 _ (List.mem_of_getElem? (i := 156) rfl)) rfl, lw_at 39 (by decide +kernel) rfl⟩, _, rfl, by decide, rfl⟩
theorem y_X1_init : wYc yX1_init cX1_init 1 none 0 := ⟨lw_in (tb_1 _ (List.mem_of_getElem? (i := 41) rfl)) rfl, lw_in (tb_1 _ (List.mem_of_getElem? (i := 3) rfl)) rfl, by decide, by decide, by decide +kernel⟩
theorem y_X1_clear : wYc yX1_clear cX1_clear 2 none 0 := ⟨lw_in (tb_3 _ (List.mem_of_getElem? (i := 35) rfl)) rfl, lw_in (tb_1 _ (List.mem_of_getElem? (i := 3) rfl)) rfl, by decide, by decide, by decide +kernel⟩
theorem v_X1_clear : wYi yX1_clear 1 := ⟨⟨lw_in (tb_3 _ (List.mem_of_getElem? (i := 33) rfl)) rfl, lw_in (tb_3 _ (List.mem_of_getElem? (i := 34) rfl)) rfl⟩, _, rfl, by decide, rfl⟩
theorem y_X1_has : wYc yX1_has cX1_has 2 (some .boolean) 1 := ⟨lw_in (tb_3 _ (List.mem_of_getElem? (i := 138) rfl)) rfl, lw_in (tb_1 _ (List.mem_of_getElem? (i := 3) rfl)) rfl, by decide, by decide, by decide +kernel⟩
theorem v_X1_has : wYi yX1_has 1 := ⟨⟨lw_in (tb_3 _ (List.mem_of_getElem? (i := 136) rfl)) rfl, lw_in (tb_3 _ (List.mem_of_getElem? (i := 137) rfl)) rfl⟩, _, rfl, by decide, rfl⟩
theorem y_X1_open : wYc yX1_open cX1_open 2 none 1 := ⟨lw_in (tb_3 _ (List.mem_of_getElem? (i := 142) rfl)) rfl, lw_in (tb_1 _ (List.mem_of_getElem? (i := 3) rfl)) rfl, by decide, by decide, by decide +kernel⟩
theorem v_X1_open : wYi yX1_open 1 := ⟨⟨lw_in (tb_3 _ (List.mem_of_getElem? (i := 140) rfl)) rfl, lw_in (tb_3 _ (List.mem_of_getElem? (i := 141) rfl)) rfl⟩, _, rfl, by decide, rfl⟩
theorem y_X1_add : wYc yX1_add cX1_add 4 none 3 := ⟨lw_in (tb_3 _ (List.mem_of_getElem? (i := 154) rfl)) rfl, lw_in (tb_1 _ (List.mem_of_getElem? (i := 3) rfl)) rfl, by decide, by decide, by decide +kernel⟩
theorem v_X1_add : wYi yX1_add 1 := ⟨⟨lw_in (tb_3 _ (List.mem_of_getElem? (i := 152) rfl)) rfl, lw_in (tb_3 _ (List.mem_of_getElem? (i := 153) rfl)) rfl⟩, _, rfl, by decide, rfl⟩
theorem y_X1_work : wYc yX1_work cX1_work 9 (some .long) 2 := ⟨lw_in (tb_4 _ (List.mem_of_getElem? (i := 8) rfl)) rfl, lw_in (tb_1 _ (List.mem_of_getElem? (i := 3) rfl)) rfl, by decide, by decide, by decide +kernel⟩
theorem v_X1_work : wYi yX1_work 1 := ⟨⟨lw_in (tb_4 _ (List.mem_of_getElem? (i := 6) rfl)) rfl, lw_in (tb_4 _ (List.mem_of_getElem? (i := 7) rfl)) rfl⟩, _, rfl, by decide, rfl⟩
theorem y_X1_join : wYc yX1_join cX1_join 9 (some .long) 3 := ⟨lw_in (tb_4 _ (List.mem_of_getElem? (i := 12) rfl)) rfl, lw_in (tb_1 _ (List.mem_of_getElem? (i := 3) rfl)) rfl, by decide, by decide, by decide +kernel⟩
theorem v_X1_join : Cond.static yX1_join ∈ lw_tb := lw_in (tb_4 _ (List.mem_of_getElem? (i := 11) rfl)) rfl
theorem y_X2_init : wYc yX2_init cX2_init 3 none 2 := ⟨lw_in (tb_1 _ (List.mem_of_getElem? (i := 163) rfl)) rfl, lw_in (tb_1 _ (List.mem_of_getElem? (i := 4) rfl)) rfl, by decide, by decide, by decide +kernel⟩
theorem y_X2_read : wYc yX2_read cX2_read 4 (some .boolean) 2 := ⟨lw_in (tb_3 _ (List.mem_of_getElem? (i := 27) rfl)) rfl, lw_in (tb_1 _ (List.mem_of_getElem? (i := 4) rfl)) rfl, by decide, by decide, by decide +kernel⟩
theorem v_X2_read : wYi yX2_read 2 := ⟨⟨lw_in (tb_3 _ (List.mem_of_getElem? (i := 25) rfl)) rfl, lw_in (tb_3 _ (List.mem_of_getElem? (i := 26) rfl)) rfl⟩, _, rfl, by decide, rfl⟩
theorem y_X2_blame : wYc yX2_blame cX2_blame 2 none 1 := ⟨lw_in (tb_3 _ (List.mem_of_getElem? (i := 92) rfl)) rfl, lw_in (tb_1 _ (List.mem_of_getElem? (i := 4) rfl)) rfl, by decide, by decide, by decide +kernel⟩
theorem v_X2_blame : wYi yX2_blame 2 := ⟨⟨lw_in (tb_3 _ (List.mem_of_getElem? (i := 91) rfl)) rfl, lw_at 9 (by decide +kernel) rfl⟩, _, rfl, by decide, rfl⟩
theorem y_X2_readLine : wYc yX2_readLine cX2_readLine 1 none 0 := ⟨lw_in (tb_3 _ (List.mem_of_getElem? (i := 84) rfl)) rfl, lw_in (tb_1 _ (List.mem_of_getElem? (i := 4) rfl)) rfl, by decide, by decide, by decide +kernel⟩
theorem v_X2_readLine : wYi yX2_readLine 2 := ⟨⟨lw_in (tb_3 _ (List.mem_of_getElem? (i := 83) rfl)) rfl, lw_at 7 (by decide +kernel) rfl⟩, _, rfl, by decide, rfl⟩
theorem y_X2_readGuest : wYc yX2_readGuest cX2_readGuest 2 none 0 := ⟨lw_in (tb_3 _ (List.mem_of_getElem? (i := 88) rfl)) rfl, lw_in (tb_1 _ (List.mem_of_getElem? (i := 4) rfl)) rfl, by decide, by decide, by decide +kernel⟩
theorem v_X2_readGuest : wYi yX2_readGuest 2 := ⟨⟨lw_in (tb_3 _ (List.mem_of_getElem? (i := 87) rfl)) rfl, lw_at 8 (by decide +kernel) rfl⟩, _, rfl, by decide, rfl⟩
theorem y_X2_readFruit : wYc yX2_readFruit cX2_readFruit 2 none 0 := ⟨lw_in (tb_3 _ (List.mem_of_getElem? (i := 113) rfl)) rfl, lw_in (tb_1 _ (List.mem_of_getElem? (i := 4) rfl)) rfl, by decide, by decide, by decide +kernel⟩
theorem v_X2_readFruit : wYi yX2_readFruit 2 := ⟨⟨lw_in (tb_3 _ (List.mem_of_getElem? (i := 112) rfl)) rfl, lw_at 13 (by decide +kernel) rfl⟩, _, rfl, by decide, rfl⟩
theorem y_X2_readBite : wYc yX2_readBite cX2_readBite 2 none 0 := ⟨lw_in (tb_3 _ (List.mem_of_getElem? (i := 121) rfl)) rfl, lw_in (tb_1 _ (List.mem_of_getElem? (i := 4) rfl)) rfl, by decide, by decide, by decide +kernel⟩
theorem v_X2_readBite : wYi yX2_readBite 2 := ⟨⟨lw_in (tb_3 _ (List.mem_of_getElem? (i := 120) rfl)) rfl, lw_at 14 (by decide +kernel) rfl⟩, _, rfl, by decide, rfl⟩
theorem y_X2_readSetting : wYc yX2_readSetting cX2_readSetting 2 none 1 := ⟨lw_in (tb_3 _ (List.mem_of_getElem? (i := 129) rfl)) rfl, lw_in (tb_1 _ (List.mem_of_getElem? (i := 4) rfl)) rfl, by decide, by decide, by decide +kernel⟩
theorem v_X2_readSetting : wYi yX2_readSetting 2 := ⟨⟨lw_in (tb_3 _ (List.mem_of_getElem? (i := 128) rfl)) rfl, lw_at 16 (by decide +kernel) rfl⟩, _, rfl, by decide, rfl⟩
theorem y_X2_readLaw : wYc yX2_readLaw cX2_readLaw 4 none 0 := ⟨lw_in (tb_3 _ (List.mem_of_getElem? (i := 134) rfl)) rfl, lw_in (tb_1 _ (List.mem_of_getElem? (i := 4) rfl)) rfl, by decide, by decide, by decide +kernel⟩
theorem v_X2_readLaw : wYi yX2_readLaw 2 := ⟨⟨lw_in (tb_3 _ (List.mem_of_getElem? (i := 133) rfl)) rfl, lw_at 17 (by decide +kernel) rfl⟩, _, rfl, by decide, rfl⟩
theorem y_X2_takeNewName : wYc yX2_takeNewName cX2_takeNewName 3 (some .int) 1 := ⟨lw_in (tb_3 _ (List.mem_of_getElem? (i := 101) rfl)) rfl, lw_in (tb_1 _ (List.mem_of_getElem? (i := 4) rfl)) rfl, by decide, by decide, by decide +kernel⟩
theorem v_X2_takeNewName : wYi yX2_takeNewName 2 := ⟨⟨lw_in (tb_3 _ (List.mem_of_getElem? (i := 100) rfl)) rfl, lw_at 10 (by decide +kernel) rfl⟩, _, rfl, by decide, rfl⟩
theorem y_X2_takeGuest : wYc yX2_takeGuest cX2_takeGuest 2 (some .int) 0 := ⟨lw_in (tb_3 _ (List.mem_of_getElem? (i := 125) rfl)) rfl, lw_in (tb_1 _ (List.mem_of_getElem? (i := 4) rfl)) rfl, by decide, by decide, by decide +kernel⟩
theorem v_X2_takeGuest : wYi yX2_takeGuest 2 := ⟨⟨lw_in (tb_3 _ (List.mem_of_getElem? (i := 124) rfl)) rfl, lw_at 15 (by decide +kernel) rfl⟩, _, rfl, by decide, rfl⟩
theorem y_X2_takeNumber : wYc yX2_takeNumber cX2_takeNumber 4 (some .int) 2 := ⟨lw_in (tb_3 _ (List.mem_of_getElem? (i := 109) rfl)) rfl, lw_in (tb_1 _ (List.mem_of_getElem? (i := 4) rfl)) rfl, by decide, by decide, by decide +kernel⟩
theorem v_X2_takeNumber : wYi yX2_takeNumber 2 := ⟨⟨lw_in (tb_3 _ (List.mem_of_getElem? (i := 108) rfl)) rfl, lw_at 12 (by decide +kernel) rfl⟩, _, rfl, by decide, rfl⟩
theorem y_X2_goOnIfGood : wYc yX2_goOnIfGood cX2_goOnIfGood 1 none 0 := ⟨lw_in (tb_3 _ (List.mem_of_getElem? (i := 105) rfl)) rfl, lw_in (tb_1 _ (List.mem_of_getElem? (i := 4) rfl)) rfl, by decide, by decide, by decide +kernel⟩
theorem v_X2_goOnIfGood : wYi yX2_goOnIfGood 2 := ⟨⟨lw_in (tb_3 _ (List.mem_of_getElem? (i := 104) rfl)) rfl, lw_at 11 (by decide +kernel) rfl⟩, _, rfl, by decide, rfl⟩
theorem y_X2_readTowardsValue : wYc yX2_readTowardsValue cX2_readTowardsValue 4 (some .boolean) 0 := ⟨lw_in (tb_3 _ (List.mem_of_getElem? (i := 146) rfl)) rfl, lw_in (tb_1 _ (List.mem_of_getElem? (i := 4) rfl)) rfl, by decide, by decide, by decide +kernel⟩
theorem v_X2_readTowardsValue : wYi yX2_readTowardsValue 2 := ⟨⟨lw_in (tb_3 _ (List.mem_of_getElem? (i := 145) rfl)) rfl, lw_at 18 (by decide +kernel) rfl⟩, _, rfl, by decide, rfl⟩
theorem y_X2_readBehindValue : wYc yX2_readBehindValue cX2_readBehindValue 3 (some .boolean) 0 := ⟨lw_in (tb_3 _ (List.mem_of_getElem? (i := 173) rfl)) rfl, lw_in (tb_1 _ (List.mem_of_getElem? (i := 4) rfl)) rfl, by decide, by decide, by decide +kernel⟩
theorem v_X2_readBehindValue : wYi yX2_readBehindValue 2 := ⟨⟨lw_in (tb_3 _ (List.mem_of_getElem? (i := 172) rfl)) rfl, lw_at 23 (by decide +kernel) rfl⟩, _, rfl, by decide, rfl⟩
theorem y_X2_openOne : wYc yX2_openOne cX2_openOne 1 none 0 := ⟨lw_in (tb_3 _ (List.mem_of_getElem? (i := 158) rfl)) rfl, lw_in (tb_1 _ (List.mem_of_getElem? (i := 4) rfl)) rfl, by decide, by decide, by decide +kernel⟩
theorem v_X2_openOne : wYi yX2_openOne 2 := ⟨⟨lw_in (tb_3 _ (List.mem_of_getElem? (i := 157) rfl)) rfl, lw_at 20 (by decide +kernel) rfl⟩, _, rfl, by decide, rfl⟩
theorem y_X2_countKnot : wYc yX2_countKnot cX2_countKnot 1 none 0 := ⟨lw_in (tb_3 _ (List.mem_of_getElem? (i := 150) rfl)) rfl, lw_in (tb_1 _ (List.mem_of_getElem? (i := 4) rfl)) rfl, by decide, by decide, by decide +kernel⟩
theorem v_X2_countKnot : wYi yX2_countKnot 2 := ⟨⟨lw_in (tb_3 _ (List.mem_of_getElem? (i := 149) rfl)) rfl, lw_at 19 (by decide +kernel) rfl⟩, _, rfl, by decide, rfl⟩
theorem y_X2_await : wYc yX2_await cX2_await 2 none 1 := ⟨lw_in (tb_3 _ (List.mem_of_getElem? (i := 162) rfl)) rfl, lw_in (tb_1 _ (List.mem_of_getElem? (i := 4) rfl)) rfl, by decide, by decide, by decide +kernel⟩
theorem v_X2_await : wYi yX2_await 2 := ⟨⟨lw_in (tb_3 _ (List.mem_of_getElem? (i := 161) rfl)) rfl, lw_at 21 (by decide +kernel) rfl⟩, _, rfl, by decide, rfl⟩
theorem y_X2_lastWaiting : wYc yX2_lastWaiting cX2_lastWaiting 1 (some .int) 0 := ⟨lw_in (tb_3 _ (List.mem_of_getElem? (i := 166) rfl)) rfl, lw_in (tb_1 _ (List.mem_of_getElem? (i := 4) rfl)) rfl, by decide, by decide, by decide +kernel⟩
theorem v_X2_lastWaiting : wYi yX2_lastWaiting 2 := ⟨⟨lw_in (tb_3 _ (List.mem_of_getElem? (i := 165) rfl)) rfl, lw_at 22 (by decide +kernel) rfl⟩, _, rfl, by decide, rfl⟩
theorem y_X2_putDownFrom : wYc yX2_putDownFrom cX2_putDownFrom 2 none 1 := ⟨lw_in (tb_3 _ (List.mem_of_getElem? (i := 177) rfl)) rfl, lw_in (tb_1 _ (List.mem_of_getElem? (i := 4) rfl)) rfl, by decide, by decide, by decide +kernel⟩
theorem v_X2_putDownFrom : wYi yX2_putDownFrom 2 := ⟨⟨lw_in (tb_3 _ (List.mem_of_getElem? (i := 176) rfl)) rfl, lw_at 24 (by decide +kernel) rfl⟩, _, rfl, by decide, rfl⟩
theorem y_X2_bindingOf : wYc yX2_bindingOf cX2_bindingOf 1 (some .int) 1 := ⟨lw_in (tb_3 _ (List.mem_of_getElem? (i := 169) rfl)) rfl, lw_in (tb_1 _ (List.mem_of_getElem? (i := 4) rfl)) rfl, by decide, by decide, by decide +kernel⟩
theorem v_X2_bindingOf : Cond.static yX2_bindingOf ∈ lw_tb := lw_in (tb_3 _ (List.mem_of_getElem? (i := 168) rfl)) rfl
theorem y_X3_init : wYc yX3_init cX3_init 1 none 0 := ⟨lw_in (tb_2 _ (List.mem_of_getElem? (i := 57) rfl)) rfl, lw_in (tb_1 _ (List.mem_of_getElem? (i := 10) rfl)) rfl, by decide, by decide, by decide +kernel⟩
theorem y_X3_begin : wYc yX3_begin cX3_begin 3 none 1 := ⟨lw_in (tb_3 _ (List.mem_of_getElem? (i := 181) rfl)) rfl, lw_in (tb_1 _ (List.mem_of_getElem? (i := 10) rfl)) rfl, by decide, by decide, by decide +kernel⟩
theorem v_X3_begin : wYi yX3_begin 3 := ⟨⟨lw_in (tb_3 _ (List.mem_of_getElem? (i := 179) rfl)) rfl, lw_in (tb_3 _ (List.mem_of_getElem? (i := 180) rfl)) rfl⟩, _, rfl, by decide, rfl⟩
theorem y_X3_take : wYc yX3_take cX3_take 2 none 1 := ⟨lw_in (tb_4 _ (List.mem_of_getElem? (i := 173) rfl)) rfl, lw_in (tb_1 _ (List.mem_of_getElem? (i := 10) rfl)) rfl, by decide, by decide, by decide +kernel⟩
theorem v_X3_take : wYi yX3_take 3 := ⟨⟨lw_in (tb_4 _ (List.mem_of_getElem? (i := 171) rfl)) rfl, lw_in (tb_4 _ (List.mem_of_getElem? (i := 172) rfl)) rfl⟩, _, rfl, by decide, rfl⟩
theorem y_X3_hasFainted : wYc yX3_hasFainted cX3_hasFainted 2 (some .boolean) 1 := ⟨lw_in (tb_4 _ (List.mem_of_getElem? (i := 49) rfl)) rfl, lw_in (tb_1 _ (List.mem_of_getElem? (i := 10) rfl)) rfl, by decide, by decide, by decide +kernel⟩
theorem v_X3_hasFainted : wYi yX3_hasFainted 3 := ⟨⟨lw_in (tb_4 _ (List.mem_of_getElem? (i := 47) rfl)) rfl, lw_in (tb_4 _ (List.mem_of_getElem? (i := 48) rfl)) rfl⟩, _, rfl, by decide, rfl⟩
theorem y_X3_faint : wYc yX3_faint cX3_faint 2 none 1 := ⟨lw_in (tb_4 _ (List.mem_of_getElem? (i := 161) rfl)) rfl, lw_in (tb_1 _ (List.mem_of_getElem? (i := 10) rfl)) rfl, by decide, by decide, by decide +kernel⟩
theorem v_X3_faint : wYi yX3_faint 3 := ⟨⟨lw_in (tb_4 _ (List.mem_of_getElem? (i := 159) rfl)) rfl, lw_in (tb_4 _ (List.mem_of_getElem? (i := 160) rfl)) rfl⟩, _, rfl, by decide, rfl⟩
theorem y_X3_comeTo : wYc yX3_comeTo cX3_comeTo 2 none 1 := ⟨lw_in (tb_4 _ (List.mem_of_getElem? (i := 60) rfl)) rfl, lw_in (tb_1 _ (List.mem_of_getElem? (i := 10) rfl)) rfl, by decide, by decide, by decide +kernel⟩
theorem v_X3_comeTo : wYi yX3_comeTo 3 := ⟨⟨lw_in (tb_4 _ (List.mem_of_getElem? (i := 58) rfl)) rfl, lw_in (tb_4 _ (List.mem_of_getElem? (i := 59) rfl)) rfl⟩, _, rfl, by decide, rfl⟩
theorem y_X3_isEaten : wYc yX3_isEaten cX3_isEaten 2 (some .boolean) 1 := ⟨lw_in (tb_3 _ (List.mem_of_getElem? (i := 207) rfl)) rfl, lw_in (tb_1 _ (List.mem_of_getElem? (i := 10) rfl)) rfl, by decide, by decide, by decide +kernel⟩
theorem v_X3_isEaten : wYi yX3_isEaten 3 := ⟨⟨lw_in (tb_3 _ (List.mem_of_getElem? (i := 205) rfl)) rfl, lw_in (tb_3 _ (List.mem_of_getElem? (i := 206) rfl)) rfl⟩, _, rfl, by decide, rfl⟩
theorem y_X3_eat : wYc yX3_eat cX3_eat 2 none 1 := ⟨lw_in (tb_4 _ (List.mem_of_getElem? (i := 102) rfl)) rfl, lw_in (tb_1 _ (List.mem_of_getElem? (i := 10) rfl)) rfl, by decide, by decide, by decide +kernel⟩
theorem v_X3_eat : wYi yX3_eat 3 := ⟨⟨lw_in (tb_4 _ (List.mem_of_getElem? (i := 100) rfl)) rfl, lw_in (tb_4 _ (List.mem_of_getElem? (i := 101) rfl)) rfl⟩, _, rfl, by decide, rfl⟩
theorem y_X3_changeSeats : wYc yX3_changeSeats cX3_changeSeats 4 none 2 := ⟨lw_in (tb_4 _ (List.mem_of_getElem? (i := 26) rfl)) rfl, lw_in (tb_1 _ (List.mem_of_getElem? (i := 10) rfl)) rfl, by decide, by decide, by decide +kernel⟩
theorem v_X3_changeSeats : wYi yX3_changeSeats 3 := ⟨⟨lw_in (tb_4 _ (List.mem_of_getElem? (i := 24) rfl)) rfl, lw_in (tb_4 _ (List.mem_of_getElem? (i := 25) rfl)) rfl⟩, _, rfl, by decide, rfl⟩
theorem y_X3_nextNumber : wYc yX3_nextNumber cX3_nextNumber 1 (some .int) 0 := ⟨lw_in (tb_4 _ (List.mem_of_getElem? (i := 149) rfl)) rfl, lw_in (tb_1 _ (List.mem_of_getElem? (i := 10) rfl)) rfl, by decide, by decide, by decide +kernel⟩
theorem v_X3_nextNumber : wYi yX3_nextNumber 3 := ⟨⟨lw_in (tb_4 _ (List.mem_of_getElem? (i := 147) rfl)) rfl, lw_in (tb_4 _ (List.mem_of_getElem? (i := 148) rfl)) rfl⟩, _, rfl, by decide, rfl⟩
theorem y_X4_init : wYc yX4_init cX4_init 1 none 0 := ⟨lw_in (tb_2 _ (List.mem_of_getElem? (i := 180) rfl)) rfl, lw_in (tb_1 _ (List.mem_of_getElem? (i := 13) rfl)) rfl, by decide, by decide, by decide +kernel⟩
theorem y_X4_clear : wYc yX4_clear cX4_clear 1 none 0 := ⟨lw_in (tb_3 _ (List.mem_of_getElem? (i := 185) rfl)) rfl, lw_in (tb_1 _ (List.mem_of_getElem? (i := 13) rfl)) rfl, by decide, by decide, by decide +kernel⟩
theorem v_X4_clear : wYi yX4_clear 4 := ⟨⟨lw_in (tb_3 _ (List.mem_of_getElem? (i := 183) rfl)) rfl, lw_in (tb_3 _ (List.mem_of_getElem? (i := 184) rfl)) rfl⟩, _, rfl, by decide, rfl⟩
theorem y_X4_knownSize : wYc yX4_knownSize cX4_knownSize 1 (some .int) 0 := ⟨lw_in (tb_5 _ (List.mem_of_getElem? (i := 121) rfl)) rfl, lw_in (tb_1 _ (List.mem_of_getElem? (i := 13) rfl)) rfl, by decide, by decide, by decide +kernel⟩
theorem v_X4_knownSize : wYi yX4_knownSize 4 := ⟨⟨lw_in (tb_5 _ (List.mem_of_getElem? (i := 119) rfl)) rfl, lw_in (tb_5 _ (List.mem_of_getElem? (i := 120) rfl)) rfl⟩, _, rfl, by decide, rfl⟩
theorem y_X4_put : wYc yX4_put cX4_put 6 (some .int) 5 := ⟨lw_in (tb_5 _ (List.mem_of_getElem? (i := 101) rfl)) rfl, lw_in (tb_1 _ (List.mem_of_getElem? (i := 13) rfl)) rfl, by decide, by decide, by decide +kernel⟩
theorem v_X4_put : wYi yX4_put 4 := ⟨⟨lw_in (tb_5 _ (List.mem_of_getElem? (i := 99) rfl)) rfl, lw_in (tb_5 _ (List.mem_of_getElem? (i := 100) rfl)) rfl⟩, _, rfl, by decide, rfl⟩
theorem y_X4_sift : wYc yX4_sift cX4_sift 2 none 0 := ⟨lw_in (tb_5 _ (List.mem_of_getElem? (i := 117) rfl)) rfl, lw_in (tb_1 _ (List.mem_of_getElem? (i := 13) rfl)) rfl, by decide, by decide, by decide +kernel⟩
theorem v_X4_sift : wYi yX4_sift 4 := ⟨⟨lw_in (tb_5 _ (List.mem_of_getElem? (i := 115) rfl)) rfl, lw_in (tb_5 _ (List.mem_of_getElem? (i := 116) rfl)) rfl⟩, _, rfl, by decide, rfl⟩
theorem y_X4_counts : wYc yX4_counts cX4_counts 2 (some .boolean) 1 := ⟨lw_in (tb_5 _ (List.mem_of_getElem? (i := 133) rfl)) rfl, lw_in (tb_1 _ (List.mem_of_getElem? (i := 13) rfl)) rfl, by decide, by decide, by decide +kernel⟩
theorem v_X4_counts : wYi yX4_counts 4 := ⟨⟨lw_in (tb_5 _ (List.mem_of_getElem? (i := 132) rfl)) rfl, lw_at 55 (by decide +kernel) rfl⟩, _, rfl, by decide, rfl⟩
theorem y_X4_lastStep : wYc yX4_lastStep cX4_lastStep 3 (some .int) 0 := ⟨lw_in (tb_5 _ (List.mem_of_getElem? (i := 129) rfl)) rfl, lw_in (tb_1 _ (List.mem_of_getElem? (i := 13) rfl)) rfl, by decide, by decide, by decide +kernel⟩
theorem v_X4_lastStep : wYi yX4_lastStep 4 := ⟨⟨lw_in (tb_5 _ (List.mem_of_getElem? (i := 127) rfl)) rfl, lw_in (tb_5 _ (List.mem_of_getElem? (i := 128) rfl)) rfl⟩, _, rfl, by decide, rfl⟩
theorem y_X4_fits : wYc yX4_fits cX4_fits 4 (some .boolean) 1 := ⟨lw_in (tb_5 _ (List.mem_of_getElem? (i := 138) rfl)) rfl, lw_in (tb_1 _ (List.mem_of_getElem? (i := 13) rfl)) rfl, by decide, by decide, by decide +kernel⟩
theorem v_X4_fits : wYi yX4_fits 4 := ⟨⟨lw_in (tb_5 _ (List.mem_of_getElem? (i := 136) rfl)) rfl, lw_in (tb_5 _ (List.mem_of_getElem? (i := 137) rfl)) rfl⟩, _, rfl, by decide, rfl⟩
theorem y_X5_init : wYc yX5_init cX5_init 6 none 1 := ⟨lw_in (tb_1 _ (List.mem_of_getElem? (i := 169) rfl)) rfl, lw_in (tb_1 _ (List.mem_of_getElem? (i := 5) rfl)) rfl, by decide, by decide, by decide +kernel⟩
theorem y_X5_split : wYc yX5_split cX5_split 3 none 1 := ⟨lw_in (tb_3 _ (List.mem_of_getElem? (i := 39) rfl)) rfl, lw_in (tb_1 _ (List.mem_of_getElem? (i := 5) rfl)) rfl, by decide, by decide, by decide +kernel⟩
theorem v_X5_split : wYi yX5_split 5 := ⟨⟨lw_in (tb_3 _ (List.mem_of_getElem? (i := 37) rfl)) rfl, lw_in (tb_3 _ (List.mem_of_getElem? (i := 38) rfl)) rfl⟩, _, rfl, by decide, rfl⟩
theorem y_X5_next : wYc yX5_next cX5_next 1 none 0 := ⟨lw_in (tb_3 _ (List.mem_of_getElem? (i := 80) rfl)) rfl, lw_in (tb_1 _ (List.mem_of_getElem? (i := 5) rfl)) rfl, by decide, by decide, by decide +kernel⟩
theorem v_X5_next : wYi yX5_next 5 := ⟨⟨lw_in (tb_3 _ (List.mem_of_getElem? (i := 78) rfl)) rfl, lw_in (tb_3 _ (List.mem_of_getElem? (i := 79) rfl)) rfl⟩, _, rfl, by decide, rfl⟩
theorem y_X5_find : wYc yX5_find cX5_find 2 none 0 := ⟨lw_in (tb_3 _ (List.mem_of_getElem? (i := 46) rfl)) rfl, lw_in (tb_1 _ (List.mem_of_getElem? (i := 5) rfl)) rfl, by decide, by decide, by decide +kernel⟩
theorem v_X5_find : wYi yX5_find 5 := ⟨⟨lw_in (tb_3 _ (List.mem_of_getElem? (i := 45) rfl)) rfl, lw_at 1 (by decide +kernel) rfl⟩, _, rfl, by decide, rfl⟩
theorem y_X5_signAt : wYc yX5_signAt cX5_signAt 2 (some .int) 1 := ⟨lw_in (tb_3 _ (List.mem_of_getElem? (i := 50) rfl)) rfl, lw_in (tb_1 _ (List.mem_of_getElem? (i := 5) rfl)) rfl, by decide, by decide, by decide +kernel⟩
theorem v_X5_signAt : wYi yX5_signAt 5 := ⟨⟨lw_in (tb_3 _ (List.mem_of_getElem? (i := 49) rfl)) rfl, lw_at 2 (by decide +kernel) rfl⟩, _, rfl, by decide, rfl⟩
theorem y_X5_isLetter : wYc yX5_isLetter cX5_isLetter 1 (some .boolean) 1 := ⟨lw_in (tb_3 _ (List.mem_of_getElem? (i := 53) rfl)) rfl, lw_in (tb_1 _ (List.mem_of_getElem? (i := 5) rfl)) rfl, by decide, by decide, by decide +kernel⟩
theorem v_X5_isLetter : Cond.static yX5_isLetter ∈ lw_tb := lw_in (tb_3 _ (List.mem_of_getElem? (i := 52) rfl)) rfl
theorem y_X5_isDigit : wYc yX5_isDigit cX5_isDigit 1 (some .boolean) 1 := ⟨lw_in (tb_3 _ (List.mem_of_getElem? (i := 64) rfl)) rfl, lw_in (tb_1 _ (List.mem_of_getElem? (i := 5) rfl)) rfl, by decide, by decide, by decide +kernel⟩
theorem v_X5_isDigit : Cond.static yX5_isDigit ∈ lw_tb := lw_in (tb_3 _ (List.mem_of_getElem? (i := 63) rfl)) rfl
theorem y_X5_readWord : wYc yX5_readWord cX5_readWord 3 none 0 := ⟨lw_in (tb_3 _ (List.mem_of_getElem? (i := 57) rfl)) rfl, lw_in (tb_1 _ (List.mem_of_getElem? (i := 5) rfl)) rfl, by decide, by decide, by decide +kernel⟩
theorem v_X5_readWord : wYi yX5_readWord 5 := ⟨⟨lw_in (tb_3 _ (List.mem_of_getElem? (i := 56) rfl)) rfl, lw_at 3 (by decide +kernel) rfl⟩, _, rfl, by decide, rfl⟩
theorem y_X5_kindOfWord : wYc yX5_kindOfWord cX5_kindOfWord 3 (some .int) 1 := ⟨lw_in (tb_3 _ (List.mem_of_getElem? (i := 61) rfl)) rfl, lw_in (tb_1 _ (List.mem_of_getElem? (i := 5) rfl)) rfl, by decide, by decide, by decide +kernel⟩
theorem v_X5_kindOfWord : wYi yX5_kindOfWord 5 := ⟨⟨lw_in (tb_3 _ (List.mem_of_getElem? (i := 60) rfl)) rfl, lw_at 4 (by decide +kernel) rfl⟩, _, rfl, by decide, rfl⟩
theorem y_X5_readNumber : wYc yX5_readNumber cX5_readNumber 1 none 0 := ⟨lw_in (tb_3 _ (List.mem_of_getElem? (i := 68) rfl)) rfl, lw_in (tb_1 _ (List.mem_of_getElem? (i := 5) rfl)) rfl, by decide, by decide, by decide +kernel⟩
theorem v_X5_readNumber : wYi yX5_readNumber 5 := ⟨⟨lw_in (tb_3 _ (List.mem_of_getElem? (i := 67) rfl)) rfl, lw_at 5 (by decide +kernel) rfl⟩, _, rfl, by decide, rfl⟩
theorem y_X5_readSign : wYc yX5_readSign cX5_readSign 3 none 1 := ⟨lw_in (tb_3 _ (List.mem_of_getElem? (i := 73) rfl)) rfl, lw_in (tb_1 _ (List.mem_of_getElem? (i := 5) rfl)) rfl, by decide, by decide, by decide +kernel⟩
theorem v_X5_readSign : wYi yX5_readSign 5 := ⟨⟨lw_in (tb_3 _ (List.mem_of_getElem? (i := 72) rfl)) rfl, lw_at 6 (by decide +kernel) rfl⟩, _, rfl, by decide, rfl⟩
theorem y_X5_kindOfSign : wYc yX5_kindOfSign cX5_kindOfSign 1 (some .int) 1 := ⟨lw_in (tb_3 _ (List.mem_of_getElem? (i := 76) rfl)) rfl, lw_in (tb_1 _ (List.mem_of_getElem? (i := 5) rfl)) rfl, by decide, by decide, by decide +kernel⟩
theorem v_X5_kindOfSign : Cond.static yX5_kindOfSign ∈ lw_tb := lw_in (tb_3 _ (List.mem_of_getElem? (i := 75) rfl)) rfl
theorem y_X6_init : wYc yX6_init cX6_init 1 none 0 := ⟨lw_in (tb_1 _ (List.mem_of_getElem? (i := 35) rfl)) rfl, lw_in (tb_1 _ (List.mem_of_getElem? (i := 2) rfl)) rfl, by decide, by decide, by decide +kernel⟩
theorem y_X6_clear : wYc yX6_clear cX6_clear 1 none 0 := ⟨lw_in (tb_3 _ (List.mem_of_getElem? (i := 31) rfl)) rfl, lw_in (tb_1 _ (List.mem_of_getElem? (i := 2) rfl)) rfl, by decide, by decide, by decide +kernel⟩
theorem v_X6_clear : wYi yX6_clear 6 := ⟨⟨lw_in (tb_3 _ (List.mem_of_getElem? (i := 29) rfl)) rfl, lw_in (tb_3 _ (List.mem_of_getElem? (i := 30) rfl)) rfl⟩, _, rfl, by decide, rfl⟩
theorem y_X6_guestNamed : wYc yX6_guestNamed cX6_guestNamed 3 (some .int) 1 := ⟨lw_in (tb_3 _ (List.mem_of_getElem? (i := 97) rfl)) rfl, lw_in (tb_1 _ (List.mem_of_getElem? (i := 2) rfl)) rfl, by decide, by decide, by decide +kernel⟩
theorem v_X6_guestNamed : wYi yX6_guestNamed 6 := ⟨⟨lw_in (tb_3 _ (List.mem_of_getElem? (i := 95) rfl)) rfl, lw_in (tb_3 _ (List.mem_of_getElem? (i := 96) rfl)) rfl⟩, _, rfl, by decide, rfl⟩
theorem y_X6_fruitNamed : wYc yX6_fruitNamed cX6_fruitNamed 3 (some .int) 1 := ⟨lw_in (tb_3 _ (List.mem_of_getElem? (i := 117) rfl)) rfl, lw_in (tb_1 _ (List.mem_of_getElem? (i := 2) rfl)) rfl, by decide, by decide, by decide +kernel⟩
theorem v_X6_fruitNamed : wYi yX6_fruitNamed 6 := ⟨⟨lw_in (tb_3 _ (List.mem_of_getElem? (i := 115) rfl)) rfl, lw_in (tb_3 _ (List.mem_of_getElem? (i := 116) rfl)) rfl⟩, _, rfl, by decide, rfl⟩
theorem y_X6_tellsBite : wYc yX6_tellsBite cX6_tellsBite 4 (some .boolean) 2 := ⟨lw_in (tb_4 _ (List.mem_of_getElem? (i := 92) rfl)) rfl, lw_in (tb_1 _ (List.mem_of_getElem? (i := 2) rfl)) rfl, by decide, by decide, by decide +kernel⟩
theorem v_X6_tellsBite : wYi yX6_tellsBite 6 := ⟨⟨lw_in (tb_4 _ (List.mem_of_getElem? (i := 90) rfl)) rfl, lw_in (tb_4 _ (List.mem_of_getElem? (i := 91) rfl)) rfl⟩, _, rfl, by decide, rfl⟩
theorem y_X7_init : wYc yX7_init cX7_init 1 none 0 := ⟨lw_in (tb_2 _ (List.mem_of_getElem? (i := 160) rfl)) rfl, lw_in (tb_1 _ (List.mem_of_getElem? (i := 12) rfl)) rfl, by decide, by decide, by decide +kernel⟩
theorem y_X7_put : wYc yX7_put cX7_put 4 none 3 := ⟨lw_in (tb_4 _ (List.mem_of_getElem? (i := 30) rfl)) rfl, lw_in (tb_1 _ (List.mem_of_getElem? (i := 12) rfl)) rfl, by decide, by decide, by decide +kernel⟩
theorem v_X7_put : wYi yX7_put 7 := ⟨⟨lw_in (tb_4 _ (List.mem_of_getElem? (i := 28) rfl)) rfl, lw_in (tb_4 _ (List.mem_of_getElem? (i := 29) rfl)) rfl⟩, _, rfl, by decide, rfl⟩
theorem y_X7_dropOldest : wYc yX7_dropOldest cX7_dropOldest 1 none 0 := ⟨lw_in (tb_4 _ (List.mem_of_getElem? (i := 34) rfl)) rfl, lw_in (tb_1 _ (List.mem_of_getElem? (i := 12) rfl)) rfl, by decide, by decide, by decide +kernel⟩
theorem v_X7_dropOldest : wYi yX7_dropOldest 7 := ⟨⟨lw_in (tb_4 _ (List.mem_of_getElem? (i := 33) rfl)) rfl, lw_at 30 (by decide +kernel) rfl⟩, _, rfl, by decide, rfl⟩
theorem y_X7_takeBack : wYc yX7_takeBack cX7_takeBack 3 (some .int) 1 := ⟨lw_in (tb_5 _ (List.mem_of_getElem? (i := 154) rfl)) rfl, lw_in (tb_1 _ (List.mem_of_getElem? (i := 12) rfl)) rfl, by decide, by decide, by decide +kernel⟩
theorem v_X7_takeBack : wYi yX7_takeBack 7 := ⟨⟨lw_in (tb_5 _ (List.mem_of_getElem? (i := 152) rfl)) rfl, lw_in (tb_5 _ (List.mem_of_getElem? (i := 153) rfl)) rfl⟩, _, rfl, by decide, rfl⟩
theorem y_X8_init : wYc yX8_init cX8_init 1 none 0 := ⟨lw_in (tb_1 _ (List.mem_of_getElem? (i := 27) rfl)) rfl, lw_in (tb_1 _ (List.mem_of_getElem? (i := 1) rfl)) rfl, by decide, by decide, by decide +kernel⟩
theorem y_X8_feed : wYc yX8_feed cX8_feed 6 (some .int) 5 := ⟨lw_in (tb_3 _ (List.mem_of_getElem? (i := 15) rfl)) rfl, lw_in (tb_1 _ (List.mem_of_getElem? (i := 1) rfl)) rfl, by decide, by decide, by decide +kernel⟩
theorem v_X8_feed : wYi yX8_feed 8 := ⟨⟨lw_in (tb_3 _ (List.mem_of_getElem? (i := 13) rfl)) rfl, lw_in (tb_3 _ (List.mem_of_getElem? (i := 14) rfl)) rfl⟩, _, rfl, by decide, rfl⟩
theorem y_X8_putOnTape : wYc yX8_putOnTape cX8_putOnTape 3 none 1 := ⟨lw_in (tb_3 _ (List.mem_of_getElem? (i := 19) rfl)) rfl, lw_in (tb_1 _ (List.mem_of_getElem? (i := 1) rfl)) rfl, by decide, by decide, by decide +kernel⟩
theorem v_X8_putOnTape : wYi yX8_putOnTape 8 := ⟨⟨lw_in (tb_3 _ (List.mem_of_getElem? (i := 18) rfl)) rfl, lw_at 0 (by decide +kernel) rfl⟩, _, rfl, by decide, rfl⟩
theorem y_X8_text : wYc yX8_text cX8_text 3 (some .int) 1 := ⟨lw_in (tb_3 _ (List.mem_of_getElem? (i := 23) rfl)) rfl, lw_in (tb_1 _ (List.mem_of_getElem? (i := 1) rfl)) rfl, by decide, by decide, by decide +kernel⟩
theorem v_X8_text : wYi yX8_text 8 := ⟨⟨lw_in (tb_3 _ (List.mem_of_getElem? (i := 21) rfl)) rfl, lw_in (tb_3 _ (List.mem_of_getElem? (i := 22) rfl)) rfl⟩, _, rfl, by decide, rfl⟩
theorem y_X8_fault : wYc yX8_fault cX8_fault 2 (some .int) 1 := ⟨lw_in (tb_3 _ (List.mem_of_getElem? (i := 189) rfl)) rfl, lw_in (tb_1 _ (List.mem_of_getElem? (i := 1) rfl)) rfl, by decide, by decide, by decide +kernel⟩
theorem v_X8_fault : wYi yX8_fault 8 := ⟨⟨lw_in (tb_3 _ (List.mem_of_getElem? (i := 187) rfl)) rfl, lw_in (tb_3 _ (List.mem_of_getElem? (i := 188) rfl)) rfl⟩, _, rfl, by decide, rfl⟩
theorem y_X8_named : wYc yX8_named cX8_named 3 (some .int) 2 := ⟨lw_in (tb_3 _ (List.mem_of_getElem? (i := 193) rfl)) rfl, lw_in (tb_1 _ (List.mem_of_getElem? (i := 1) rfl)) rfl, by decide, by decide, by decide +kernel⟩
theorem v_X8_named : wYi yX8_named 8 := ⟨⟨lw_in (tb_3 _ (List.mem_of_getElem? (i := 191) rfl)) rfl, lw_in (tb_3 _ (List.mem_of_getElem? (i := 192) rfl)) rfl⟩, _, rfl, by decide, rfl⟩
theorem y_X8_guest : wYc yX8_guest cX8_guest 3 (some .int) 2 := ⟨lw_in (tb_5 _ (List.mem_of_getElem? (i := 182) rfl)) rfl, lw_in (tb_1 _ (List.mem_of_getElem? (i := 1) rfl)) rfl, by decide, by decide, by decide +kernel⟩
theorem v_X8_guest : wYi yX8_guest 8 := ⟨⟨lw_in (tb_5 _ (List.mem_of_getElem? (i := 180) rfl)) rfl, lw_in (tb_5 _ (List.mem_of_getElem? (i := 181) rfl)) rfl⟩, _, rfl, by decide, rfl⟩
theorem y_X8_fruit : wYc yX8_fruit cX8_fruit 3 (some .int) 2 := ⟨lw_in (tb_3 _ (List.mem_of_getElem? (i := 199) rfl)) rfl, lw_in (tb_1 _ (List.mem_of_getElem? (i := 1) rfl)) rfl, by decide, by decide, by decide +kernel⟩
theorem v_X8_fruit : wYi yX8_fruit 8 := ⟨⟨lw_in (tb_3 _ (List.mem_of_getElem? (i := 197) rfl)) rfl, lw_in (tb_3 _ (List.mem_of_getElem? (i := 198) rfl)) rfl⟩, _, rfl, by decide, rfl⟩
theorem y_X8_law : wYc yX8_law cX8_law 4 (some .long) 3 := ⟨lw_in (tb_3 _ (List.mem_of_getElem? (i := 211) rfl)) rfl, lw_in (tb_1 _ (List.mem_of_getElem? (i := 1) rfl)) rfl, by decide, by decide, by decide +kernel⟩
theorem v_X8_law : wYi yX8_law 8 := ⟨⟨lw_in (tb_3 _ (List.mem_of_getElem? (i := 209) rfl)) rfl, lw_in (tb_3 _ (List.mem_of_getElem? (i := 210) rfl)) rfl⟩, _, rfl, by decide, rfl⟩
theorem y_X8_seat : wYc yX8_seat cX8_seat 3 (some .boolean) 2 := ⟨lw_in (tb_4 _ (List.mem_of_getElem? (i := 18) rfl)) rfl, lw_in (tb_1 _ (List.mem_of_getElem? (i := 1) rfl)) rfl, by decide, by decide, by decide +kernel⟩
theorem v_X8_seat : wYi yX8_seat 8 := ⟨⟨lw_in (tb_4 _ (List.mem_of_getElem? (i := 16) rfl)) rfl, lw_in (tb_4 _ (List.mem_of_getElem? (i := 17) rfl)) rfl⟩, _, rfl, by decide, rfl⟩
theorem y_X8_bread : wYc yX8_bread cX8_bread 3 (some .int) 2 := ⟨lw_in (tb_4 _ (List.mem_of_getElem? (i := 41) rfl)) rfl, lw_in (tb_1 _ (List.mem_of_getElem? (i := 1) rfl)) rfl, by decide, by decide, by decide +kernel⟩
theorem v_X8_bread : wYi yX8_bread 8 := ⟨⟨lw_in (tb_4 _ (List.mem_of_getElem? (i := 39) rfl)) rfl, lw_in (tb_4 _ (List.mem_of_getElem? (i := 40) rfl)) rfl⟩, _, rfl, by decide, rfl⟩
theorem y_X8_wake : wYc yX8_wake cX8_wake 2 (some .boolean) 1 := ⟨lw_in (tb_4 _ (List.mem_of_getElem? (i := 56) rfl)) rfl, lw_in (tb_1 _ (List.mem_of_getElem? (i := 1) rfl)) rfl, by decide, by decide, by decide +kernel⟩
theorem v_X8_wake : wYi yX8_wake 8 := ⟨⟨lw_in (tb_4 _ (List.mem_of_getElem? (i := 54) rfl)) rfl, lw_in (tb_4 _ (List.mem_of_getElem? (i := 55) rfl)) rfl⟩, _, rfl, by decide, rfl⟩
theorem y_X8_go : wYc yX8_go cX8_go 2 (some .int) 1 := ⟨lw_in (tb_4 _ (List.mem_of_getElem? (i := 64) rfl)) rfl, lw_in (tb_1 _ (List.mem_of_getElem? (i := 1) rfl)) rfl, by decide, by decide, by decide +kernel⟩
theorem v_X8_go : wYi yX8_go 8 := ⟨⟨lw_in (tb_4 _ (List.mem_of_getElem? (i := 62) rfl)) rfl, lw_in (tb_4 _ (List.mem_of_getElem? (i := 63) rfl)) rfl⟩, _, rfl, by decide, rfl⟩
theorem y_X8_ahead : wYc yX8_ahead cX8_ahead 4 (some .int) 3 := ⟨lw_in (tb_4 _ (List.mem_of_getElem? (i := 165) rfl)) rfl, lw_in (tb_1 _ (List.mem_of_getElem? (i := 1) rfl)) rfl, by decide, by decide, by decide +kernel⟩
theorem v_X8_ahead : wYi yX8_ahead 8 := ⟨⟨lw_in (tb_4 _ (List.mem_of_getElem? (i := 163) rfl)) rfl, lw_in (tb_4 _ (List.mem_of_getElem? (i := 164) rfl)) rfl⟩, _, rfl, by decide, rfl⟩
theorem y_X8_swoon : wYc yX8_swoon cX8_swoon 3 (some .int) 1 := ⟨lw_in (tb_4 _ (List.mem_of_getElem? (i := 191) rfl)) rfl, lw_in (tb_1 _ (List.mem_of_getElem? (i := 1) rfl)) rfl, by decide, by decide, by decide +kernel⟩
theorem v_X8_swoon : wYi yX8_swoon 8 := ⟨⟨lw_in (tb_4 _ (List.mem_of_getElem? (i := 189) rfl)) rfl, lw_in (tb_4 _ (List.mem_of_getElem? (i := 190) rfl)) rfl⟩, _, rfl, by decide, rfl⟩
theorem y_X8_nextBite : wYc yX8_nextBite cX8_nextBite 4 (some .int) 1 := ⟨lw_in (tb_4 _ (List.mem_of_getElem? (i := 196) rfl)) rfl, lw_in (tb_1 _ (List.mem_of_getElem? (i := 1) rfl)) rfl, by decide, by decide, by decide +kernel⟩
theorem v_X8_nextBite : wYi yX8_nextBite 8 := ⟨⟨lw_in (tb_4 _ (List.mem_of_getElem? (i := 194) rfl)) rfl, lw_in (tb_4 _ (List.mem_of_getElem? (i := 195) rfl)) rfl⟩, _, rfl, by decide, rfl⟩
theorem y_X8_table : wYc yX8_table cX8_table 6 (some .int) 1 := ⟨lw_in (tb_4 _ (List.mem_of_getElem? (i := 200) rfl)) rfl, lw_in (tb_1 _ (List.mem_of_getElem? (i := 1) rfl)) rfl, by decide, by decide, by decide +kernel⟩
theorem v_X8_table : wYi yX8_table 8 := ⟨⟨lw_in (tb_4 _ (List.mem_of_getElem? (i := 198) rfl)) rfl, lw_in (tb_4 _ (List.mem_of_getElem? (i := 199) rfl)) rfl⟩, _, rfl, by decide, rfl⟩
theorem y_X8_firstSeating : wYc yX8_firstSeating cX8_firstSeating 3 none 0 := ⟨lw_in (tb_4 _ (List.mem_of_getElem? (i := 204) rfl)) rfl, lw_in (tb_1 _ (List.mem_of_getElem? (i := 1) rfl)) rfl, by decide, by decide, by decide +kernel⟩
theorem v_X8_firstSeating : wYi yX8_firstSeating 8 := ⟨⟨lw_in (tb_4 _ (List.mem_of_getElem? (i := 203) rfl)) rfl, lw_at 44 (by decide +kernel) rfl⟩, _, rfl, by decide, rfl⟩
theorem y_X8_fallenBySeating : wYc yX8_fallenBySeating cX8_fallenBySeating 4 (some .int) 1 := ⟨lw_in (tb_4 _ (List.mem_of_getElem? (i := 208) rfl)) rfl, lw_in (tb_1 _ (List.mem_of_getElem? (i := 1) rfl)) rfl, by decide, by decide, by decide +kernel⟩
theorem v_X8_fallenBySeating : wYi yX8_fallenBySeating 8 := ⟨⟨lw_in (tb_4 _ (List.mem_of_getElem? (i := 207) rfl)) rfl, lw_at 45 (by decide +kernel) rfl⟩, _, rfl, by decide, rfl⟩
theorem y_X8_nextSeating : wYc yX8_nextSeating cX8_nextSeating 5 (some .boolean) 0 := ⟨lw_in (tb_4 _ (List.mem_of_getElem? (i := 213) rfl)) rfl, lw_in (tb_1 _ (List.mem_of_getElem? (i := 1) rfl)) rfl, by decide, by decide, by decide +kernel⟩
theorem v_X8_nextSeating : wYi yX8_nextSeating 8 := ⟨⟨lw_in (tb_4 _ (List.mem_of_getElem? (i := 212) rfl)) rfl, lw_at 46 (by decide +kernel) rfl⟩, _, rfl, by decide, rfl⟩
theorem y_X8_exchange : wYc yX8_exchange cX8_exchange 4 none 2 := ⟨lw_in (tb_4 _ (List.mem_of_getElem? (i := 217) rfl)) rfl, lw_in (tb_1 _ (List.mem_of_getElem? (i := 1) rfl)) rfl, by decide, by decide, by decide +kernel⟩
theorem v_X8_exchange : wYi yX8_exchange 8 := ⟨⟨lw_in (tb_4 _ (List.mem_of_getElem? (i := 216) rfl)) rfl, lw_at 47 (by decide +kernel) rfl⟩, _, rfl, by decide, rfl⟩
theorem y_X8_hold : wYc yX8_hold cX8_hold 2 (some .int) 0 := ⟨lw_in (tb_4 _ (List.mem_of_getElem? (i := 221) rfl)) rfl, lw_in (tb_1 _ (List.mem_of_getElem? (i := 1) rfl)) rfl, by decide, by decide, by decide +kernel⟩
theorem v_X8_hold : wYi yX8_hold 8 := ⟨⟨lw_in (tb_4 _ (List.mem_of_getElem? (i := 219) rfl)) rfl, lw_in (tb_4 _ (List.mem_of_getElem? (i := 220) rfl)) rfl⟩, _, rfl, by decide, rfl⟩
theorem y_X8_calm : wYc yX8_calm cX8_calm 5 (some .int) 0 := ⟨lw_in (tb_4 _ (List.mem_of_getElem? (i := 226) rfl)) rfl, lw_in (tb_1 _ (List.mem_of_getElem? (i := 1) rfl)) rfl, by decide, by decide, by decide +kernel⟩
theorem v_X8_calm : wYi yX8_calm 8 := ⟨⟨lw_in (tb_4 _ (List.mem_of_getElem? (i := 224) rfl)) rfl, lw_in (tb_4 _ (List.mem_of_getElem? (i := 225) rfl)) rfl⟩, _, rfl, by decide, rfl⟩
theorem y_X8_isCalmWithout : wYc yX8_isCalmWithout cX8_isCalmWithout 3 (some .boolean) 1 := ⟨lw_in (tb_4 _ (List.mem_of_getElem? (i := 233) rfl)) rfl, lw_in (tb_1 _ (List.mem_of_getElem? (i := 1) rfl)) rfl, by decide, by decide, by decide +kernel⟩
theorem v_X8_isCalmWithout : wYi yX8_isCalmWithout 8 := ⟨⟨lw_in (tb_4 _ (List.mem_of_getElem? (i := 232) rfl)) rfl, lw_at 48 (by decide +kernel) rfl⟩, _, rfl, by decide, rfl⟩
theorem y_X8_isFewer : wYc yX8_isFewer cX8_isFewer 2 (some .boolean) 2 := ⟨lw_in (tb_4 _ (List.mem_of_getElem? (i := 229) rfl)) rfl, lw_in (tb_1 _ (List.mem_of_getElem? (i := 1) rfl)) rfl, by decide, by decide, by decide +kernel⟩
theorem v_X8_isFewer : Cond.static yX8_isFewer ∈ lw_tb := lw_in (tb_4 _ (List.mem_of_getElem? (i := 228) rfl)) rfl
theorem y_X8_bestFed : wYc yX8_bestFed cX8_bestFed 6 (some .int) 1 := ⟨lw_in (tb_4 _ (List.mem_of_getElem? (i := 237) rfl)) rfl, lw_in (tb_1 _ (List.mem_of_getElem? (i := 1) rfl)) rfl, by decide, by decide, by decide +kernel⟩
theorem v_X8_bestFed : wYi yX8_bestFed 8 := ⟨⟨lw_in (tb_4 _ (List.mem_of_getElem? (i := 235) rfl)) rfl, lw_in (tb_4 _ (List.mem_of_getElem? (i := 236) rfl)) rfl⟩, _, rfl, by decide, rfl⟩
theorem y_X8_rests : wYc yX8_rests cX8_rests 5 (some .int) 2 := ⟨lw_in (tb_5 _ (List.mem_of_getElem? (i := 6) rfl)) rfl, lw_in (tb_1 _ (List.mem_of_getElem? (i := 1) rfl)) rfl, by decide, by decide, by decide +kernel⟩
theorem v_X8_rests : wYi yX8_rests 8 := ⟨⟨lw_in (tb_5 _ (List.mem_of_getElem? (i := 4) rfl)) rfl, lw_in (tb_5 _ (List.mem_of_getElem? (i := 5) rfl)) rfl⟩, _, rfl, by decide, rfl⟩
theorem y_X8_rest : wYc yX8_rest cX8_rest 6 (some .int) 3 := ⟨lw_in (tb_5 _ (List.mem_of_getElem? (i := 18) rfl)) rfl, lw_in (tb_1 _ (List.mem_of_getElem? (i := 1) rfl)) rfl, by decide, by decide, by decide +kernel⟩
theorem v_X8_rest : wYi yX8_rest 8 := ⟨⟨lw_in (tb_5 _ (List.mem_of_getElem? (i := 16) rfl)) rfl, lw_in (tb_5 _ (List.mem_of_getElem? (i := 17) rfl)) rfl⟩, _, rfl, by decide, rfl⟩
theorem y_X8_isRest : wYc yX8_isRest cX8_isRest 6 (some .boolean) 3 := ⟨lw_in (tb_5 _ (List.mem_of_getElem? (i := 10) rfl)) rfl, lw_in (tb_1 _ (List.mem_of_getElem? (i := 1) rfl)) rfl, by decide, by decide, by decide +kernel⟩
theorem v_X8_isRest : wYi yX8_isRest 8 := ⟨⟨lw_in (tb_5 _ (List.mem_of_getElem? (i := 9) rfl)) rfl, lw_at 49 (by decide +kernel) rfl⟩, _, rfl, by decide, rfl⟩
theorem y_X8_duelWorth : wYc yX8_duelWorth cX8_duelWorth 5 (some .int) 4 := ⟨lw_in (tb_5 _ (List.mem_of_getElem? (i := 14) rfl)) rfl, lw_in (tb_1 _ (List.mem_of_getElem? (i := 1) rfl)) rfl, by decide, by decide, by decide +kernel⟩
theorem v_X8_duelWorth : wYi yX8_duelWorth 8 := ⟨⟨lw_in (tb_5 _ (List.mem_of_getElem? (i := 13) rfl)) rfl, lw_at 50 (by decide +kernel) rfl⟩, _, rfl, by decide, rfl⟩
theorem y_X8_warm : wYc yX8_warm cX8_warm 10 (some .long) 2 := ⟨lw_in (tb_5 _ (List.mem_of_getElem? (i := 22) rfl)) rfl, lw_in (tb_1 _ (List.mem_of_getElem? (i := 1) rfl)) rfl, by decide, by decide, by decide +kernel⟩
theorem v_X8_warm : wYi yX8_warm 8 := ⟨⟨lw_in (tb_5 _ (List.mem_of_getElem? (i := 20) rfl)) rfl, lw_in (tb_5 _ (List.mem_of_getElem? (i := 21) rfl)) rfl⟩, _, rfl, by decide, rfl⟩
theorem y_X8_commonDivisor : wYc yX8_commonDivisor cX8_commonDivisor 6 (some .int) 2 := ⟨lw_in (tb_5 _ (List.mem_of_getElem? (i := 26) rfl)) rfl, lw_in (tb_1 _ (List.mem_of_getElem? (i := 1) rfl)) rfl, by decide, by decide, by decide +kernel⟩
theorem v_X8_commonDivisor : Cond.static yX8_commonDivisor ∈ lw_tb := lw_in (tb_5 _ (List.mem_of_getElem? (i := 25) rfl)) rfl
theorem y_X8_bowl : wYc yX8_bowl cX8_bowl 2 (some .int) 0 := ⟨lw_in (tb_5 _ (List.mem_of_getElem? (i := 31) rfl)) rfl, lw_in (tb_1 _ (List.mem_of_getElem? (i := 1) rfl)) rfl, by decide, by decide, by decide +kernel⟩
theorem v_X8_bowl : wYi yX8_bowl 8 := ⟨⟨lw_in (tb_5 _ (List.mem_of_getElem? (i := 29) rfl)) rfl, lw_in (tb_5 _ (List.mem_of_getElem? (i := 30) rfl)) rfl⟩, _, rfl, by decide, rfl⟩
theorem y_X8_uppermost : wYc yX8_uppermost cX8_uppermost 2 (some .int) 0 := ⟨lw_in (tb_5 _ (List.mem_of_getElem? (i := 36) rfl)) rfl, lw_in (tb_1 _ (List.mem_of_getElem? (i := 1) rfl)) rfl, by decide, by decide, by decide +kernel⟩
theorem v_X8_uppermost : wYi yX8_uppermost 8 := ⟨⟨lw_in (tb_5 _ (List.mem_of_getElem? (i := 34) rfl)) rfl, lw_in (tb_5 _ (List.mem_of_getElem? (i := 35) rfl)) rfl⟩, _, rfl, by decide, rfl⟩
theorem y_X8_hungriest : wYc yX8_hungriest cX8_hungriest 3 (some .int) 0 := ⟨lw_in (tb_5 _ (List.mem_of_getElem? (i := 40) rfl)) rfl, lw_in (tb_1 _ (List.mem_of_getElem? (i := 1) rfl)) rfl, by decide, by decide, by decide +kernel⟩
theorem v_X8_hungriest : wYi yX8_hungriest 8 := ⟨⟨lw_in (tb_5 _ (List.mem_of_getElem? (i := 38) rfl)) rfl, lw_in (tb_5 _ (List.mem_of_getElem? (i := 39) rfl)) rfl⟩, _, rfl, by decide, rfl⟩
theorem y_X8_marked : wYc yX8_marked cX8_marked 3 (some .int) 0 := ⟨lw_in (tb_5 _ (List.mem_of_getElem? (i := 44) rfl)) rfl, lw_in (tb_1 _ (List.mem_of_getElem? (i := 1) rfl)) rfl, by decide, by decide, by decide +kernel⟩
theorem v_X8_marked : wYi yX8_marked 8 := ⟨⟨lw_in (tb_5 _ (List.mem_of_getElem? (i := 42) rfl)) rfl, lw_in (tb_5 _ (List.mem_of_getElem? (i := 43) rfl)) rfl⟩, _, rfl, by decide, rfl⟩
theorem y_X8_apart : wYc yX8_apart cX8_apart 3 (some .int) 2 := ⟨lw_in (tb_5 _ (List.mem_of_getElem? (i := 48) rfl)) rfl, lw_in (tb_1 _ (List.mem_of_getElem? (i := 1) rfl)) rfl, by decide, by decide, by decide +kernel⟩
theorem v_X8_apart : wYi yX8_apart 8 := ⟨⟨lw_in (tb_5 _ (List.mem_of_getElem? (i := 46) rfl)) rfl, lw_in (tb_5 _ (List.mem_of_getElem? (i := 47) rfl)) rfl⟩, _, rfl, by decide, rfl⟩
theorem y_X8_eatenIn : wYc yX8_eatenIn cX8_eatenIn 3 (some .int) 1 := ⟨lw_in (tb_5 _ (List.mem_of_getElem? (i := 53) rfl)) rfl, lw_in (tb_1 _ (List.mem_of_getElem? (i := 1) rfl)) rfl, by decide, by decide, by decide +kernel⟩
theorem v_X8_eatenIn : wYi yX8_eatenIn 8 := ⟨⟨lw_in (tb_5 _ (List.mem_of_getElem? (i := 51) rfl)) rfl, lw_in (tb_5 _ (List.mem_of_getElem? (i := 52) rfl)) rfl⟩, _, rfl, by decide, rfl⟩
theorem y_X8_loaf : wYc yX8_loaf cX8_loaf 5 (some .int) 2 := ⟨lw_in (tb_5 _ (List.mem_of_getElem? (i := 57) rfl)) rfl, lw_in (tb_1 _ (List.mem_of_getElem? (i := 1) rfl)) rfl, by decide, by decide, by decide +kernel⟩
theorem v_X8_loaf : wYi yX8_loaf 8 := ⟨⟨lw_in (tb_5 _ (List.mem_of_getElem? (i := 55) rfl)) rfl, lw_in (tb_5 _ (List.mem_of_getElem? (i := 56) rfl)) rfl⟩, _, rfl, by decide, rfl⟩
theorem y_X8_staysBy : wYc yX8_staysBy cX8_staysBy 5 (some .boolean) 3 := ⟨lw_in (tb_5 _ (List.mem_of_getElem? (i := 61) rfl)) rfl, lw_in (tb_1 _ (List.mem_of_getElem? (i := 1) rfl)) rfl, by decide, by decide, by decide +kernel⟩
theorem v_X8_staysBy : wYi yX8_staysBy 8 := ⟨⟨lw_in (tb_5 _ (List.mem_of_getElem? (i := 60) rfl)) rfl, lw_at 51 (by decide +kernel) rfl⟩, _, rfl, by decide, rfl⟩
theorem y_X8_chain : wYc yX8_chain cX8_chain 3 (some .int) 2 := ⟨lw_in (tb_5 _ (List.mem_of_getElem? (i := 65) rfl)) rfl, lw_in (tb_1 _ (List.mem_of_getElem? (i := 1) rfl)) rfl, by decide, by decide, by decide +kernel⟩
theorem v_X8_chain : wYi yX8_chain 8 := ⟨⟨lw_in (tb_5 _ (List.mem_of_getElem? (i := 63) rfl)) rfl, lw_in (tb_5 _ (List.mem_of_getElem? (i := 64) rfl)) rfl⟩, _, rfl, by decide, rfl⟩
theorem y_X8_part : wYc yX8_part cX8_part 7 (some .int) 2 := ⟨lw_in (tb_5 _ (List.mem_of_getElem? (i := 81) rfl)) rfl, lw_in (tb_1 _ (List.mem_of_getElem? (i := 1) rfl)) rfl, by decide, by decide, by decide +kernel⟩
theorem v_X8_part : wYi yX8_part 8 := ⟨⟨lw_in (tb_5 _ (List.mem_of_getElem? (i := 79) rfl)) rfl, lw_in (tb_5 _ (List.mem_of_getElem? (i := 80) rfl)) rfl⟩, _, rfl, by decide, rfl⟩
theorem y_X8_passedOn : wYc yX8_passedOn cX8_passedOn 6 (some .int) 3 := ⟨lw_in (tb_5 _ (List.mem_of_getElem? (i := 69) rfl)) rfl, lw_in (tb_1 _ (List.mem_of_getElem? (i := 1) rfl)) rfl, by decide, by decide, by decide +kernel⟩
theorem v_X8_passedOn : wYi yX8_passedOn 8 := ⟨⟨lw_in (tb_5 _ (List.mem_of_getElem? (i := 68) rfl)) rfl, lw_at 52 (by decide +kernel) rfl⟩, _, rfl, by decide, rfl⟩
theorem y_X8_withHearers : wYc yX8_withHearers cX8_withHearers 4 (some .int) 1 := ⟨lw_in (tb_5 _ (List.mem_of_getElem? (i := 73) rfl)) rfl, lw_in (tb_1 _ (List.mem_of_getElem? (i := 1) rfl)) rfl, by decide, by decide, by decide +kernel⟩
theorem v_X8_withHearers : wYi yX8_withHearers 8 := ⟨⟨lw_in (tb_5 _ (List.mem_of_getElem? (i := 72) rfl)) rfl, lw_at 53 (by decide +kernel) rfl⟩, _, rfl, by decide, rfl⟩
theorem y_X8_rudest : wYc yX8_rudest cX8_rudest 3 (some .int) 0 := ⟨lw_in (tb_5 _ (List.mem_of_getElem? (i := 85) rfl)) rfl, lw_in (tb_1 _ (List.mem_of_getElem? (i := 1) rfl)) rfl, by decide, by decide, by decide +kernel⟩
theorem v_X8_rudest : wYi yX8_rudest 8 := ⟨⟨lw_in (tb_5 _ (List.mem_of_getElem? (i := 83) rfl)) rfl, lw_in (tb_5 _ (List.mem_of_getElem? (i := 84) rfl)) rfl⟩, _, rfl, by decide, rfl⟩
theorem y_X8_grace : wYc yX8_grace cX8_grace 4 (some .int) 1 := ⟨lw_in (tb_5 _ (List.mem_of_getElem? (i := 89) rfl)) rfl, lw_in (tb_1 _ (List.mem_of_getElem? (i := 1) rfl)) rfl, by decide, by decide, by decide +kernel⟩
theorem v_X8_grace : wYi yX8_grace 8 := ⟨⟨lw_in (tb_5 _ (List.mem_of_getElem? (i := 87) rfl)) rfl, lw_in (tb_5 _ (List.mem_of_getElem? (i := 88) rfl)) rfl⟩, _, rfl, by decide, rfl⟩
theorem y_X8_untouched : wYc yX8_untouched cX8_untouched 3 (some .int) 0 := ⟨lw_in (tb_5 _ (List.mem_of_getElem? (i := 93) rfl)) rfl, lw_in (tb_1 _ (List.mem_of_getElem? (i := 1) rfl)) rfl, by decide, by decide, by decide +kernel⟩
theorem v_X8_untouched : wYi yX8_untouched 8 := ⟨⟨lw_in (tb_5 _ (List.mem_of_getElem? (i := 91) rfl)) rfl, lw_in (tb_5 _ (List.mem_of_getElem? (i := 92) rfl)) rfl⟩, _, rfl, by decide, rfl⟩
theorem y_X8_see : wYc yX8_see cX8_see 5 (some .int) 4 := ⟨lw_in (tb_5 _ (List.mem_of_getElem? (i := 97) rfl)) rfl, lw_in (tb_1 _ (List.mem_of_getElem? (i := 1) rfl)) rfl, by decide, by decide, by decide +kernel⟩
theorem v_X8_see : wYi yX8_see 8 := ⟨⟨lw_in (tb_5 _ (List.mem_of_getElem? (i := 95) rfl)) rfl, lw_in (tb_5 _ (List.mem_of_getElem? (i := 96) rfl)) rfl⟩, _, rfl, by decide, rfl⟩
theorem y_X8_strike : wYc yX8_strike cX8_strike 2 (some .int) 1 := ⟨lw_in (tb_5 _ (List.mem_of_getElem? (i := 105) rfl)) rfl, lw_in (tb_1 _ (List.mem_of_getElem? (i := 1) rfl)) rfl, by decide, by decide, by decide +kernel⟩
theorem v_X8_strike : wYi yX8_strike 8 := ⟨⟨lw_in (tb_5 _ (List.mem_of_getElem? (i := 103) rfl)) rfl, lw_in (tb_5 _ (List.mem_of_getElem? (i := 104) rfl)) rfl⟩, _, rfl, by decide, rfl⟩
theorem y_X8_known : wYc yX8_known cX8_known 2 (some .boolean) 1 := ⟨lw_in (tb_5 _ (List.mem_of_getElem? (i := 109) rfl)) rfl, lw_in (tb_1 _ (List.mem_of_getElem? (i := 1) rfl)) rfl, by decide, by decide, by decide +kernel⟩
theorem v_X8_known : wYi yX8_known 8 := ⟨⟨lw_in (tb_5 _ (List.mem_of_getElem? (i := 107) rfl)) rfl, lw_in (tb_5 _ (List.mem_of_getElem? (i := 108) rfl)) rfl⟩, _, rfl, by decide, rfl⟩
theorem y_X8_sweets : wYc yX8_sweets cX8_sweets 4 (some .int) 1 := ⟨lw_in (tb_5 _ (List.mem_of_getElem? (i := 113) rfl)) rfl, lw_in (tb_1 _ (List.mem_of_getElem? (i := 1) rfl)) rfl, by decide, by decide, by decide +kernel⟩
theorem v_X8_sweets : wYi yX8_sweets 8 := ⟨⟨lw_in (tb_5 _ (List.mem_of_getElem? (i := 111) rfl)) rfl, lw_in (tb_5 _ (List.mem_of_getElem? (i := 112) rfl)) rfl⟩, _, rfl, by decide, rfl⟩
theorem y_X8_agrees : wYc yX8_agrees cX8_agrees 5 (some .boolean) 2 := ⟨lw_in (tb_5 _ (List.mem_of_getElem? (i := 125) rfl)) rfl, lw_in (tb_1 _ (List.mem_of_getElem? (i := 1) rfl)) rfl, by decide, by decide, by decide +kernel⟩
theorem v_X8_agrees : wYi yX8_agrees 8 := ⟨⟨lw_in (tb_5 _ (List.mem_of_getElem? (i := 124) rfl)) rfl, lw_at 54 (by decide +kernel) rfl⟩, _, rfl, by decide, rfl⟩
theorem y_X8_chance : wYc yX8_chance cX8_chance 7 (some .int) 3 := ⟨lw_in (tb_5 _ (List.mem_of_getElem? (i := 142) rfl)) rfl, lw_in (tb_1 _ (List.mem_of_getElem? (i := 1) rfl)) rfl, by decide, by decide, by decide +kernel⟩
theorem v_X8_chance : wYi yX8_chance 8 := ⟨⟨lw_in (tb_5 _ (List.mem_of_getElem? (i := 140) rfl)) rfl, lw_in (tb_5 _ (List.mem_of_getElem? (i := 141) rfl)) rfl⟩, _, rfl, by decide, rfl⟩
theorem y_X8_tried : wYc yX8_tried cX8_tried 4 (some .int) 3 := ⟨lw_in (tb_5 _ (List.mem_of_getElem? (i := 146) rfl)) rfl, lw_in (tb_1 _ (List.mem_of_getElem? (i := 1) rfl)) rfl, by decide, by decide, by decide +kernel⟩
theorem v_X8_tried : wYi yX8_tried 8 := ⟨⟨lw_in (tb_5 _ (List.mem_of_getElem? (i := 144) rfl)) rfl, lw_in (tb_5 _ (List.mem_of_getElem? (i := 145) rfl)) rfl⟩, _, rfl, by decide, rfl⟩
theorem y_X8_undo : wYc yX8_undo cX8_undo 1 (some .int) 0 := ⟨lw_in (tb_5 _ (List.mem_of_getElem? (i := 150) rfl)) rfl, lw_in (tb_1 _ (List.mem_of_getElem? (i := 1) rfl)) rfl, by decide, by decide, by decide +kernel⟩
theorem v_X8_undo : wYi yX8_undo 8 := ⟨⟨lw_in (tb_5 _ (List.mem_of_getElem? (i := 148) rfl)) rfl, lw_in (tb_5 _ (List.mem_of_getElem? (i := 149) rfl)) rfl⟩, _, rfl, by decide, rfl⟩
theorem y_X8_keep : wYc yX8_keep cX8_keep 1 (some .int) 0 := ⟨lw_in (tb_5 _ (List.mem_of_getElem? (i := 160) rfl)) rfl, lw_in (tb_1 _ (List.mem_of_getElem? (i := 1) rfl)) rfl, by decide, by decide, by decide +kernel⟩
theorem v_X8_keep : wYi yX8_keep 8 := ⟨⟨lw_in (tb_5 _ (List.mem_of_getElem? (i := 158) rfl)) rfl, lw_in (tb_5 _ (List.mem_of_getElem? (i := 159) rfl)) rfl⟩, _, rfl, by decide, rfl⟩
theorem y_X8_back : wYc yX8_back cX8_back 1 (some .int) 0 := ⟨lw_in (tb_5 _ (List.mem_of_getElem? (i := 164) rfl)) rfl, lw_in (tb_1 _ (List.mem_of_getElem? (i := 1) rfl)) rfl, by decide, by decide, by decide +kernel⟩
theorem v_X8_back : wYi yX8_back 8 := ⟨⟨lw_in (tb_5 _ (List.mem_of_getElem? (i := 162) rfl)) rfl, lw_in (tb_5 _ (List.mem_of_getElem? (i := 163) rfl)) rfl⟩, _, rfl, by decide, rfl⟩
theorem y_X8_count : wYc yX8_count cX8_count 2 (some .int) 1 := ⟨lw_in (tb_5 _ (List.mem_of_getElem? (i := 168) rfl)) rfl, lw_in (tb_1 _ (List.mem_of_getElem? (i := 1) rfl)) rfl, by decide, by decide, by decide +kernel⟩
theorem v_X8_count : wYi yX8_count 8 := ⟨⟨lw_in (tb_5 _ (List.mem_of_getElem? (i := 166) rfl)) rfl, lw_in (tb_5 _ (List.mem_of_getElem? (i := 167) rfl)) rfl⟩, _, rfl, by decide, rfl⟩
theorem y_X8_isGuest : wYc yX8_isGuest cX8_isGuest 2 (some .boolean) 1 := ⟨lw_in (tb_3 _ (List.mem_of_getElem? (i := 215) rfl)) rfl, lw_in (tb_1 _ (List.mem_of_getElem? (i := 1) rfl)) rfl, by decide, by decide, by decide +kernel⟩
theorem v_X8_isGuest : wYi yX8_isGuest 8 := ⟨⟨lw_in (tb_3 _ (List.mem_of_getElem? (i := 214) rfl)) rfl, lw_at 26 (by decide +kernel) rfl⟩, _, rfl, by decide, rfl⟩
theorem y_X8_isFruit : wYc yX8_isFruit cX8_isFruit 2 (some .boolean) 1 := ⟨lw_in (tb_3 _ (List.mem_of_getElem? (i := 203) rfl)) rfl, lw_in (tb_1 _ (List.mem_of_getElem? (i := 1) rfl)) rfl, by decide, by decide, by decide +kernel⟩
theorem v_X8_isFruit : wYi yX8_isFruit 8 := ⟨⟨lw_in (tb_3 _ (List.mem_of_getElem? (i := 202) rfl)) rfl, lw_at 25 (by decide +kernel) rfl⟩, _, rfl, by decide, rfl⟩
theorem y_X8_isThere : wYc yX8_isThere cX8_isThere 2 (some .boolean) 1 := ⟨lw_in (tb_4 _ (List.mem_of_getElem? (i := 45) rfl)) rfl, lw_in (tb_1 _ (List.mem_of_getElem? (i := 1) rfl)) rfl, by decide, by decide, by decide +kernel⟩
theorem v_X8_isThere : wYi yX8_isThere 8 := ⟨⟨lw_in (tb_4 _ (List.mem_of_getElem? (i := 44) rfl)) rfl, lw_at 31 (by decide +kernel) rfl⟩, _, rfl, by decide, rfl⟩
theorem y_X8_areTwoGuests : wYc yX8_areTwoGuests cX8_areTwoGuests 3 (some .boolean) 2 := ⟨lw_in (tb_4 _ (List.mem_of_getElem? (i := 22) rfl)) rfl, lw_in (tb_1 _ (List.mem_of_getElem? (i := 1) rfl)) rfl, by decide, by decide, by decide +kernel⟩
theorem v_X8_areTwoGuests : wYi yX8_areTwoGuests 8 := ⟨⟨lw_in (tb_4 _ (List.mem_of_getElem? (i := 21) rfl)) rfl, lw_at 29 (by decide +kernel) rfl⟩, _, rfl, by decide, rfl⟩
theorem y_X8_plainCourse : wYc yX8_plainCourse cX8_plainCourse 1 (some (.object "WaxBowl$Course")) 0 := ⟨lw_in (tb_3 _ (List.mem_of_getElem? (i := 220) rfl)) rfl, lw_in (tb_1 _ (List.mem_of_getElem? (i := 1) rfl)) rfl, by decide, by decide, by decide +kernel⟩
theorem v_X8_plainCourse : wYi yX8_plainCourse 8 := ⟨⟨lw_in (tb_3 _ (List.mem_of_getElem? (i := 219) rfl)) rfl, lw_at 27 (by decide +kernel) rfl⟩, _, rfl, by decide, rfl⟩
theorem y_X8_startTrial : wYc yX8_startTrial cX8_startTrial 1 none 0 := ⟨lw_in (tb_4 _ (List.mem_of_getElem? (i := 169) rfl)) rfl, lw_in (tb_1 _ (List.mem_of_getElem? (i := 1) rfl)) rfl, by decide, by decide, by decide +kernel⟩
theorem v_X8_startTrial : wYi yX8_startTrial 8 := ⟨⟨lw_in (tb_4 _ (List.mem_of_getElem? (i := 168) rfl)) rfl, lw_at 40 (by decide +kernel) rfl⟩, _, rfl, by decide, rfl⟩
theorem y_X8_fallenInTrial : wYc yX8_fallenInTrial cX8_fallenInTrial 1 (some .int) 0 := ⟨lw_in (tb_4 _ (List.mem_of_getElem? (i := 182) rfl)) rfl, lw_in (tb_1 _ (List.mem_of_getElem? (i := 1) rfl)) rfl, by decide, by decide, by decide +kernel⟩
theorem v_X8_fallenInTrial : wYi yX8_fallenInTrial 8 := ⟨⟨lw_in (tb_4 _ (List.mem_of_getElem? (i := 181) rfl)) rfl, lw_at 42 (by decide +kernel) rfl⟩, _, rfl, by decide, rfl⟩
theorem y_X8_bitesIn : wYc yX8_bitesIn cX8_bitesIn 4 (some .int) 1 := ⟨lw_in (tb_4 _ (List.mem_of_getElem? (i := 178) rfl)) rfl, lw_in (tb_1 _ (List.mem_of_getElem? (i := 1) rfl)) rfl, by decide, by decide, by decide +kernel⟩
theorem v_X8_bitesIn : wYi yX8_bitesIn 8 := ⟨⟨lw_in (tb_4 _ (List.mem_of_getElem? (i := 177) rfl)) rfl, lw_at 41 (by decide +kernel) rfl⟩, _, rfl, by decide, rfl⟩
theorem y_X8_fedIn : wYc yX8_fedIn cX8_fedIn 4 (some .int) 1 := ⟨lw_in (tb_4 _ (List.mem_of_getElem? (i := 187) rfl)) rfl, lw_in (tb_1 _ (List.mem_of_getElem? (i := 1) rfl)) rfl, by decide, by decide, by decide +kernel⟩
theorem v_X8_fedIn : wYi yX8_fedIn 8 := ⟨⟨lw_in (tb_4 _ (List.mem_of_getElem? (i := 186) rfl)) rfl, lw_at 43 (by decide +kernel) rfl⟩, _, rfl, by decide, rfl⟩
theorem y_X8_hungerNow : wYc yX8_hungerNow cX8_hungerNow 3 (some .int) 0 := ⟨lw_in (tb_5 _ (List.mem_of_getElem? (i := 172) rfl)) rfl, lw_in (tb_1 _ (List.mem_of_getElem? (i := 1) rfl)) rfl, by decide, by decide, by decide +kernel⟩
theorem v_X8_hungerNow : wYi yX8_hungerNow 8 := ⟨⟨lw_in (tb_5 _ (List.mem_of_getElem? (i := 171) rfl)) rfl, lw_at 56 (by decide +kernel) rfl⟩, _, rfl, by decide, rfl⟩
theorem y_X9_init : wYc yX9_init cX9_init 1 none 0 := ⟨lw_in (tb_6 _ (List.mem_of_getElem? (i := 29) rfl)) rfl, lw_in (tb_1 _ (List.mem_of_getElem? (i := 14) rfl)) rfl, by decide, by decide, by decide +kernel⟩
theorem y_X9_thrown : wYc yX9_thrown cX9_thrown 1 (some .int) 0 := ⟨lw_in (tb_7 _ (List.mem_of_getElem? (i := 58) rfl)) rfl, lw_in (tb_1 _ (List.mem_of_getElem? (i := 14) rfl)) rfl, by decide, by decide, by decide +kernel⟩
theorem v_X9_thrown : wYi yX9_thrown 9 := ⟨⟨lw_in (tb_7 _ (List.mem_of_getElem? (i := 56) rfl)) rfl, lw_in (tb_7 _ (List.mem_of_getElem? (i := 57) rfl)) rfl⟩, _, rfl, by decide, rfl⟩
theorem y_X9_feed : wYc yX9_feed cX9_feed 8 (some .int) 5 := ⟨lw_in (tb_7 _ (List.mem_of_getElem? (i := 62) rfl)) rfl, lw_in (tb_1 _ (List.mem_of_getElem? (i := 14) rfl)) rfl, by decide, by decide, by decide +kernel⟩
theorem v_X9_feed : wYi yX9_feed 9 := ⟨⟨lw_in (tb_7 _ (List.mem_of_getElem? (i := 60) rfl)) rfl, lw_in (tb_7 _ (List.mem_of_getElem? (i := 61) rfl)) rfl⟩, _, rfl, by decide, rfl⟩
theorem y_X9_isIn : wYc yX9_isIn cX9_isIn 3 (some .boolean) 3 := ⟨lw_in (tb_7 _ (List.mem_of_getElem? (i := 117) rfl)) rfl, lw_in (tb_1 _ (List.mem_of_getElem? (i := 14) rfl)) rfl, by decide, by decide, by decide +kernel⟩
theorem v_X9_isIn : Cond.static yX9_isIn ∈ lw_tb := lw_in (tb_7 _ (List.mem_of_getElem? (i := 116) rfl)) rfl
theorem y_X9_isOf : wYc yX9_isOf cX9_isOf 2 (some .boolean) 2 := ⟨lw_in (tb_7 _ (List.mem_of_getElem? (i := 211) rfl)) rfl, lw_in (tb_1 _ (List.mem_of_getElem? (i := 14) rfl)) rfl, by decide, by decide, by decide +kernel⟩
theorem v_X9_isOf : Cond.static yX9_isOf ∈ lw_tb := lw_in (tb_7 _ (List.mem_of_getElem? (i := 210) rfl)) rfl
theorem y_X9_wrong : wYc yX9_wrong cX9_wrong 2 (some .boolean) 1 := ⟨lw_in (tb_7 _ (List.mem_of_getElem? (i := 99) rfl)) rfl, lw_in (tb_1 _ (List.mem_of_getElem? (i := 14) rfl)) rfl, by decide, by decide, by decide +kernel⟩
theorem v_X9_wrong : wYi yX9_wrong 9 := ⟨⟨lw_in (tb_7 _ (List.mem_of_getElem? (i := 98) rfl)) rfl, lw_at 70 (by decide +kernel) rfl⟩, _, rfl, by decide, rfl⟩
theorem y_X9_wordAt : wYc yX9_wordAt cX9_wordAt 8 (some .int) 2 := ⟨lw_in (tb_7 _ (List.mem_of_getElem? (i := 78) rfl)) rfl, lw_in (tb_1 _ (List.mem_of_getElem? (i := 14) rfl)) rfl, by decide, by decide, by decide +kernel⟩
theorem v_X9_wordAt : wYi yX9_wordAt 9 := ⟨⟨lw_in (tb_7 _ (List.mem_of_getElem? (i := 77) rfl)) rfl, lw_at 65 (by decide +kernel) rfl⟩, _, rfl, by decide, rfl⟩
theorem y_X9_isSmall : wYc yX9_isSmall cX9_isSmall 2 (some .boolean) 1 := ⟨lw_in (tb_7 _ (List.mem_of_getElem? (i := 74) rfl)) rfl, lw_in (tb_1 _ (List.mem_of_getElem? (i := 14) rfl)) rfl, by decide, by decide, by decide +kernel⟩
theorem v_X9_isSmall : wYi yX9_isSmall 9 := ⟨⟨lw_in (tb_7 _ (List.mem_of_getElem? (i := 73) rfl)) rfl, lw_at 64 (by decide +kernel) rfl⟩, _, rfl, by decide, rfl⟩
theorem y_X9_isDigit : wYc yX9_isDigit cX9_isDigit 2 (some .boolean) 1 := ⟨lw_in (tb_7 _ (List.mem_of_getElem? (i := 86) rfl)) rfl, lw_in (tb_1 _ (List.mem_of_getElem? (i := 14) rfl)) rfl, by decide, by decide, by decide +kernel⟩
theorem v_X9_isDigit : wYi yX9_isDigit 9 := ⟨⟨lw_in (tb_7 _ (List.mem_of_getElem? (i := 85) rfl)) rfl, lw_at 67 (by decide +kernel) rfl⟩, _, rfl, by decide, rfl⟩
theorem y_X9_token : wYc yX9_token cX9_token 1 none 0 := ⟨lw_in (tb_7 _ (List.mem_of_getElem? (i := 70) rfl)) rfl, lw_in (tb_1 _ (List.mem_of_getElem? (i := 14) rfl)) rfl, by decide, by decide, by decide +kernel⟩
theorem v_X9_token : wYi yX9_token 9 := ⟨⟨lw_in (tb_7 _ (List.mem_of_getElem? (i := 69) rfl)) rfl, lw_at 63 (by decide +kernel) rfl⟩, _, rfl, by decide, rfl⟩
theorem y_X9_signToken : wYc yX9_signToken cX9_signToken 4 none 0 := ⟨lw_in (tb_7 _ (List.mem_of_getElem? (i := 91) rfl)) rfl, lw_in (tb_1 _ (List.mem_of_getElem? (i := 14) rfl)) rfl, by decide, by decide, by decide +kernel⟩
theorem v_X9_signToken : wYi yX9_signToken 9 := ⟨⟨lw_in (tb_7 _ (List.mem_of_getElem? (i := 90) rfl)) rfl, lw_at 68 (by decide +kernel) rfl⟩, _, rfl, by decide, rfl⟩
theorem y_X9_packed : wYc yX9_packed cX9_packed 5 (some .int) 2 := ⟨lw_in (tb_7 _ (List.mem_of_getElem? (i := 82) rfl)) rfl, lw_in (tb_1 _ (List.mem_of_getElem? (i := 14) rfl)) rfl, by decide, by decide, by decide +kernel⟩
theorem v_X9_packed : wYi yX9_packed 9 := ⟨⟨lw_in (tb_7 _ (List.mem_of_getElem? (i := 81) rfl)) rfl, lw_at 66 (by decide +kernel) rfl⟩, _, rfl, by decide, rfl⟩
theorem y_X9_isKey : wYc yX9_isKey cX9_isKey 2 (some .boolean) 1 := ⟨lw_in (tb_7 _ (List.mem_of_getElem? (i := 149) rfl)) rfl, lw_in (tb_1 _ (List.mem_of_getElem? (i := 14) rfl)) rfl, by decide, by decide, by decide +kernel⟩
theorem v_X9_isKey : wYi yX9_isKey 9 := ⟨⟨lw_in (tb_7 _ (List.mem_of_getElem? (i := 148) rfl)) rfl, lw_at 81 (by decide +kernel) rfl⟩, _, rfl, by decide, rfl⟩
theorem y_X9_isSign : wYc yX9_isSign cX9_isSign 2 (some .boolean) 1 := ⟨lw_in (tb_7 _ (List.mem_of_getElem? (i := 137) rfl)) rfl, lw_in (tb_1 _ (List.mem_of_getElem? (i := 14) rfl)) rfl, by decide, by decide, by decide +kernel⟩
theorem v_X9_isSign : wYi yX9_isSign 9 := ⟨⟨lw_in (tb_7 _ (List.mem_of_getElem? (i := 136) rfl)) rfl, lw_at 78 (by decide +kernel) rfl⟩, _, rfl, by decide, rfl⟩
theorem y_X9_number : wYc yX9_number cX9_number 3 (some .boolean) 2 := ⟨lw_in (tb_7 _ (List.mem_of_getElem? (i := 114) rfl)) rfl, lw_in (tb_1 _ (List.mem_of_getElem? (i := 14) rfl)) rfl, by decide, by decide, by decide +kernel⟩
theorem v_X9_number : wYi yX9_number 9 := ⟨⟨lw_in (tb_7 _ (List.mem_of_getElem? (i := 113) rfl)) rfl, lw_at 73 (by decide +kernel) rfl⟩, _, rfl, by decide, rfl⟩
theorem y_X9_plain : wYc yX9_plain cX9_plain 2 none 0 := ⟨lw_in (tb_6 _ (List.mem_of_getElem? (i := 34) rfl)) rfl, lw_in (tb_1 _ (List.mem_of_getElem? (i := 14) rfl)) rfl, by decide, by decide, by decide +kernel⟩
theorem v_X9_plain : wYi yX9_plain 9 := ⟨⟨lw_in (tb_6 _ (List.mem_of_getElem? (i := 33) rfl)) rfl, lw_at 58 (by decide +kernel) rfl⟩, _, rfl, by decide, rfl⟩
theorem y_X9_copies : wYc yX9_copies cX9_copies 3 none 2 := ⟨lw_in (tb_6 _ (List.mem_of_getElem? (i := 41) rfl)) rfl, lw_in (tb_1 _ (List.mem_of_getElem? (i := 14) rfl)) rfl, by decide, by decide, by decide +kernel⟩
theorem v_X9_copies : Cond.static yX9_copies ∈ lw_tb := lw_in (tb_6 _ (List.mem_of_getElem? (i := 40) rfl)) rfl
theorem y_X9_keepText : wYc yX9_keepText cX9_keepText 2 none 0 := ⟨lw_in (tb_6 _ (List.mem_of_getElem? (i := 38) rfl)) rfl, lw_in (tb_1 _ (List.mem_of_getElem? (i := 14) rfl)) rfl, by decide, by decide, by decide +kernel⟩
theorem v_X9_keepText : wYi yX9_keepText 9 := ⟨⟨lw_in (tb_6 _ (List.mem_of_getElem? (i := 37) rfl)) rfl, lw_at 59 (by decide +kernel) rfl⟩, _, rfl, by decide, rfl⟩
theorem y_X9_find : wYc yX9_find cX9_find 5 (some .int) 4 := ⟨lw_in (tb_7 _ (List.mem_of_getElem? (i := 110) rfl)) rfl, lw_in (tb_1 _ (List.mem_of_getElem? (i := 14) rfl)) rfl, by decide, by decide, by decide +kernel⟩
theorem v_X9_find : Cond.static yX9_find ∈ lw_tb := lw_in (tb_7 _ (List.mem_of_getElem? (i := 109) rfl)) rfl
theorem y_X9_newName : wYc yX9_newName cX9_newName 4 (some .boolean) 3 := ⟨lw_in (tb_7 _ (List.mem_of_getElem? (i := 107) rfl)) rfl, lw_in (tb_1 _ (List.mem_of_getElem? (i := 14) rfl)) rfl, by decide, by decide, by decide +kernel⟩
theorem v_X9_newName : wYi yX9_newName 9 := ⟨⟨lw_in (tb_7 _ (List.mem_of_getElem? (i := 106) rfl)) rfl, lw_at 72 (by decide +kernel) rfl⟩, _, rfl, by decide, rfl⟩
theorem y_X9_guestLine : wYc yX9_guestLine cX9_guestLine 2 (some .boolean) 0 := ⟨lw_in (tb_7 _ (List.mem_of_getElem? (i := 103) rfl)) rfl, lw_in (tb_1 _ (List.mem_of_getElem? (i := 14) rfl)) rfl, by decide, by decide, by decide +kernel⟩
theorem v_X9_guestLine : wYi yX9_guestLine 9 := ⟨⟨lw_in (tb_7 _ (List.mem_of_getElem? (i := 102) rfl)) rfl, lw_at 71 (by decide +kernel) rfl⟩, _, rfl, by decide, rfl⟩
theorem y_X9_fruitLine : wYc yX9_fruitLine cX9_fruitLine 1 (some .boolean) 0 := ⟨lw_in (tb_7 _ (List.mem_of_getElem? (i := 121) rfl)) rfl, lw_in (tb_1 _ (List.mem_of_getElem? (i := 14) rfl)) rfl, by decide, by decide, by decide +kernel⟩
theorem v_X9_fruitLine : wYi yX9_fruitLine 9 := ⟨⟨lw_in (tb_7 _ (List.mem_of_getElem? (i := 120) rfl)) rfl, lw_at 74 (by decide +kernel) rfl⟩, _, rfl, by decide, rfl⟩
theorem y_X9_biteLine : wYc yX9_biteLine cX9_biteLine 2 (some .boolean) 0 := ⟨lw_in (tb_7 _ (List.mem_of_getElem? (i := 125) rfl)) rfl, lw_in (tb_1 _ (List.mem_of_getElem? (i := 14) rfl)) rfl, by decide, by decide, by decide +kernel⟩
theorem v_X9_biteLine : wYi yX9_biteLine 9 := ⟨⟨lw_in (tb_7 _ (List.mem_of_getElem? (i := 124) rfl)) rfl, lw_at 75 (by decide +kernel) rfl⟩, _, rfl, by decide, rfl⟩
theorem y_X9_onceLine : wYc yX9_onceLine cX9_onceLine 4 (some .boolean) 3 := ⟨lw_in (tb_7 _ (List.mem_of_getElem? (i := 129) rfl)) rfl, lw_in (tb_1 _ (List.mem_of_getElem? (i := 14) rfl)) rfl, by decide, by decide, by decide +kernel⟩
theorem v_X9_onceLine : wYi yX9_onceLine 9 := ⟨⟨lw_in (tb_7 _ (List.mem_of_getElem? (i := 128) rfl)) rfl, lw_at 76 (by decide +kernel) rfl⟩, _, rfl, by decide, rfl⟩
theorem y_X9_lineRead : wYc yX9_lineRead cX9_lineRead 3 (some .boolean) 0 := ⟨lw_in (tb_7 _ (List.mem_of_getElem? (i := 95) rfl)) rfl, lw_in (tb_1 _ (List.mem_of_getElem? (i := 14) rfl)) rfl, by decide, by decide, by decide +kernel⟩
theorem v_X9_lineRead : wYi yX9_lineRead 9 := ⟨⟨lw_in (tb_7 _ (List.mem_of_getElem? (i := 94) rfl)) rfl, lw_at 69 (by decide +kernel) rfl⟩, _, rfl, by decide, rfl⟩
theorem y_X9_text : wYc yX9_text cX9_text 3 (some .int) 1 := ⟨lw_in (tb_7 _ (List.mem_of_getElem? (i := 66) rfl)) rfl, lw_in (tb_1 _ (List.mem_of_getElem? (i := 14) rfl)) rfl, by decide, by decide, by decide +kernel⟩
theorem v_X9_text : wYi yX9_text 9 := ⟨⟨lw_in (tb_7 _ (List.mem_of_getElem? (i := 64) rfl)) rfl, lw_in (tb_7 _ (List.mem_of_getElem? (i := 65) rfl)) rfl⟩, _, rfl, by decide, rfl⟩
theorem y_X9_fault : wYc yX9_fault cX9_fault 2 (some .int) 1 := ⟨lw_in (tb_7 _ (List.mem_of_getElem? (i := 180) rfl)) rfl, lw_in (tb_1 _ (List.mem_of_getElem? (i := 14) rfl)) rfl, by decide, by decide, by decide +kernel⟩
theorem v_X9_fault : wYi yX9_fault 9 := ⟨⟨lw_in (tb_7 _ (List.mem_of_getElem? (i := 178) rfl)) rfl, lw_in (tb_7 _ (List.mem_of_getElem? (i := 179) rfl)) rfl⟩, _, rfl, by decide, rfl⟩
theorem y_X9_named : wYc yX9_named cX9_named 3 (some .int) 2 := ⟨lw_in (tb_7 _ (List.mem_of_getElem? (i := 184) rfl)) rfl, lw_in (tb_1 _ (List.mem_of_getElem? (i := 14) rfl)) rfl, by decide, by decide, by decide +kernel⟩
theorem v_X9_named : wYi yX9_named 9 := ⟨⟨lw_in (tb_7 _ (List.mem_of_getElem? (i := 182) rfl)) rfl, lw_in (tb_7 _ (List.mem_of_getElem? (i := 183) rfl)) rfl⟩, _, rfl, by decide, rfl⟩
theorem y_X9_rank : wYc yX9_rank cX9_rank 1 (some .int) 1 := ⟨lw_in (tb_7 _ (List.mem_of_getElem? (i := 172) rfl)) rfl, lw_in (tb_1 _ (List.mem_of_getElem? (i := 14) rfl)) rfl, by decide, by decide, by decide +kernel⟩
theorem v_X9_rank : Cond.static yX9_rank ∈ lw_tb := lw_in (tb_7 _ (List.mem_of_getElem? (i := 171) rfl)) rfl
theorem y_X9_grown : wYc yX9_grown cX9_grown 4 none 3 := ⟨lw_in (tb_7 _ (List.mem_of_getElem? (i := 161) rfl)) rfl, lw_in (tb_1 _ (List.mem_of_getElem? (i := 14) rfl)) rfl, by decide, by decide, by decide +kernel⟩
theorem v_X9_grown : wYi yX9_grown 9 := ⟨⟨lw_in (tb_7 _ (List.mem_of_getElem? (i := 160) rfl)) rfl, lw_at 84 (by decide +kernel) rfl⟩, _, rfl, by decide, rfl⟩
theorem y_X9_dropHeld : wYc yX9_dropHeld cX9_dropHeld 1 (some .int) 0 := ⟨lw_in (tb_7 _ (List.mem_of_getElem? (i := 176) rfl)) rfl, lw_in (tb_1 _ (List.mem_of_getElem? (i := 14) rfl)) rfl, by decide, by decide, by decide +kernel⟩
theorem v_X9_dropHeld : wYi yX9_dropHeld 9 := ⟨⟨lw_in (tb_7 _ (List.mem_of_getElem? (i := 175) rfl)) rfl, lw_at 87 (by decide +kernel) rfl⟩, _, rfl, by decide, rfl⟩
theorem y_X9_bind : wYc yX9_bind cX9_bind 5 none 1 := ⟨lw_in (tb_7 _ (List.mem_of_getElem? (i := 169) rfl)) rfl, lw_in (tb_1 _ (List.mem_of_getElem? (i := 14) rfl)) rfl, by decide, by decide, by decide +kernel⟩
theorem v_X9_bind : wYi yX9_bind 9 := ⟨⟨lw_in (tb_7 _ (List.mem_of_getElem? (i := 168) rfl)) rfl, lw_at 86 (by decide +kernel) rfl⟩, _, rfl, by decide, rfl⟩
theorem y_X9_isCounted : wYc yX9_isCounted cX9_isCounted 1 (some .boolean) 0 := ⟨lw_in (tb_7 _ (List.mem_of_getElem? (i := 153) rfl)) rfl, lw_in (tb_1 _ (List.mem_of_getElem? (i := 14) rfl)) rfl, by decide, by decide, by decide +kernel⟩
theorem v_X9_isCounted : wYi yX9_isCounted 9 := ⟨⟨lw_in (tb_7 _ (List.mem_of_getElem? (i := 152) rfl)) rfl, lw_at 82 (by decide +kernel) rfl⟩, _, rfl, by decide, rfl⟩
theorem y_X9_waitsFor : wYc yX9_waitsFor cX9_waitsFor 2 none 1 := ⟨lw_in (tb_7 _ (List.mem_of_getElem? (i := 145) rfl)) rfl, lw_in (tb_1 _ (List.mem_of_getElem? (i := 14) rfl)) rfl, by decide, by decide, by decide +kernel⟩
theorem v_X9_waitsFor : wYi yX9_waitsFor 9 := ⟨⟨lw_in (tb_7 _ (List.mem_of_getElem? (i := 144) rfl)) rfl, lw_at 80 (by decide +kernel) rfl⟩, _, rfl, by decide, rfl⟩
theorem y_X9_nameMet : wYc yX9_nameMet cX9_nameMet 1 (some .int) 0 := ⟨lw_in (tb_7 _ (List.mem_of_getElem? (i := 157) rfl)) rfl, lw_in (tb_1 _ (List.mem_of_getElem? (i := 14) rfl)) rfl, by decide, by decide, by decide +kernel⟩
theorem v_X9_nameMet : wYi yX9_nameMet 9 := ⟨⟨lw_in (tb_7 _ (List.mem_of_getElem? (i := 156) rfl)) rfl, lw_at 83 (by decide +kernel) rfl⟩, _, rfl, by decide, rfl⟩
theorem y_X9_leafRead : wYc yX9_leafRead cX9_leafRead 2 (some .boolean) 0 := ⟨lw_in (tb_7 _ (List.mem_of_getElem? (i := 141) rfl)) rfl, lw_in (tb_1 _ (List.mem_of_getElem? (i := 14) rfl)) rfl, by decide, by decide, by decide +kernel⟩
theorem v_X9_leafRead : wYi yX9_leafRead 9 := ⟨⟨lw_in (tb_7 _ (List.mem_of_getElem? (i := 140) rfl)) rfl, lw_at 79 (by decide +kernel) rfl⟩, _, rfl, by decide, rfl⟩
theorem y_X9_signs : wYc yX9_signs cX9_signs 2 (some .boolean) 0 := ⟨lw_in (tb_7 _ (List.mem_of_getElem? (i := 165) rfl)) rfl, lw_in (tb_1 _ (List.mem_of_getElem? (i := 14) rfl)) rfl, by decide, by decide, by decide +kernel⟩
theorem v_X9_signs : wYi yX9_signs 9 := ⟨⟨lw_in (tb_7 _ (List.mem_of_getElem? (i := 164) rfl)) rfl, lw_at 85 (by decide +kernel) rfl⟩, _, rfl, by decide, rfl⟩
theorem y_X9_sumRead : wYc yX9_sumRead cX9_sumRead 1 (some .boolean) 0 := ⟨lw_in (tb_7 _ (List.mem_of_getElem? (i := 133) rfl)) rfl, lw_in (tb_1 _ (List.mem_of_getElem? (i := 14) rfl)) rfl, by decide, by decide, by decide +kernel⟩
theorem v_X9_sumRead : wYi yX9_sumRead 9 := ⟨⟨lw_in (tb_7 _ (List.mem_of_getElem? (i := 132) rfl)) rfl, lw_at 77 (by decide +kernel) rfl⟩, _, rfl, by decide, rfl⟩
theorem y_X9_bounded : wYc yX9_bounded cX9_bounded 3 (some .long) 1 := ⟨lw_in (tb_8 _ (List.mem_of_getElem? (i := 12) rfl)) rfl, lw_in (tb_1 _ (List.mem_of_getElem? (i := 14) rfl)) rfl, by decide, by decide, by decide +kernel⟩
theorem v_X9_bounded : wYi yX9_bounded 9 := ⟨⟨lw_in (tb_8 _ (List.mem_of_getElem? (i := 11) rfl)) rfl, lw_at 100 (by decide +kernel) rfl⟩, _, rfl, by decide, rfl⟩
theorem y_X9_compares : wYc yX9_compares cX9_compares 5 (some .boolean) 3 := ⟨lw_in (tb_8 _ (List.mem_of_getElem? (i := 21) rfl)) rfl, lw_in (tb_1 _ (List.mem_of_getElem? (i := 14) rfl)) rfl, by decide, by decide, by decide +kernel⟩
theorem v_X9_compares : Cond.static yX9_compares ∈ lw_tb := lw_in (tb_8 _ (List.mem_of_getElem? (i := 20) rfl)) rfl
theorem y_X9_times : wYc yX9_times cX9_times 6 (some .long) 2 := ⟨lw_in (tb_8 _ (List.mem_of_getElem? (i := 18) rfl)) rfl, lw_in (tb_1 _ (List.mem_of_getElem? (i := 14) rfl)) rfl, by decide, by decide, by decide +kernel⟩
theorem v_X9_times : wYi yX9_times 9 := ⟨⟨lw_in (tb_8 _ (List.mem_of_getElem? (i := 17) rfl)) rfl, lw_at 101 (by decide +kernel) rfl⟩, _, rfl, by decide, rfl⟩
theorem y_X9_valueOf : wYc yX9_valueOf cX9_valueOf 6 (some .long) 1 := ⟨lw_in (tb_8 _ (List.mem_of_getElem? (i := 8) rfl)) rfl, lw_in (tb_1 _ (List.mem_of_getElem? (i := 14) rfl)) rfl, by decide, by decide, by decide +kernel⟩
theorem v_X9_valueOf : wYi yX9_valueOf 9 := ⟨⟨lw_in (tb_8 _ (List.mem_of_getElem? (i := 7) rfl)) rfl, lw_at 99 (by decide +kernel) rfl⟩, _, rfl, by decide, rfl⟩
theorem y_X9_begin : wYc yX9_begin cX9_begin 1 none 0 := ⟨lw_in (tb_6 _ (List.mem_of_getElem? (i := 45) rfl)) rfl, lw_in (tb_1 _ (List.mem_of_getElem? (i := 14) rfl)) rfl, by decide, by decide, by decide +kernel⟩
theorem v_X9_begin : wYi yX9_begin 9 := ⟨⟨lw_in (tb_6 _ (List.mem_of_getElem? (i := 44) rfl)) rfl, lw_at 60 (by decide +kernel) rfl⟩, _, rfl, by decide, rfl⟩
theorem y_X9_atFirst : wYc yX9_atFirst cX9_atFirst 3 none 1 := ⟨lw_in (tb_6 _ (List.mem_of_getElem? (i := 49) rfl)) rfl, lw_in (tb_1 _ (List.mem_of_getElem? (i := 14) rfl)) rfl, by decide, by decide, by decide +kernel⟩
theorem v_X9_atFirst : wYi yX9_atFirst 9 := ⟨⟨lw_in (tb_6 _ (List.mem_of_getElem? (i := 48) rfl)) rfl, lw_at 61 (by decide +kernel) rfl⟩, _, rfl, by decide, rfl⟩
theorem y_X9_plainTried : wYc yX9_plainTried cX9_plainTried 1 none 0 := ⟨lw_in (tb_6 _ (List.mem_of_getElem? (i := 53) rfl)) rfl, lw_in (tb_1 _ (List.mem_of_getElem? (i := 14) rfl)) rfl, by decide, by decide, by decide +kernel⟩
theorem v_X9_plainTried : wYi yX9_plainTried 9 := ⟨⟨lw_in (tb_6 _ (List.mem_of_getElem? (i := 52) rfl)) rfl, lw_at 62 (by decide +kernel) rfl⟩, _, rfl, by decide, rfl⟩
theorem y_X9_layTried : wYc yX9_layTried cX9_layTried 2 none 0 := ⟨lw_in (tb_8 _ (List.mem_of_getElem? (i := 106) rfl)) rfl, lw_in (tb_1 _ (List.mem_of_getElem? (i := 14) rfl)) rfl, by decide, by decide, by decide +kernel⟩
theorem v_X9_layTried : wYi yX9_layTried 9 := ⟨⟨lw_in (tb_8 _ (List.mem_of_getElem? (i := 105) rfl)) rfl, lw_at 116 (by decide +kernel) rfl⟩, _, rfl, by decide, rfl⟩
theorem y_X9_isGuest : wYc yX9_isGuest cX9_isGuest 2 (some .boolean) 1 := ⟨lw_in (tb_7 _ (List.mem_of_getElem? (i := 192) rfl)) rfl, lw_in (tb_1 _ (List.mem_of_getElem? (i := 14) rfl)) rfl, by decide, by decide, by decide +kernel⟩
theorem v_X9_isGuest : wYi yX9_isGuest 9 := ⟨⟨lw_in (tb_7 _ (List.mem_of_getElem? (i := 191) rfl)) rfl, lw_at 88 (by decide +kernel) rfl⟩, _, rfl, by decide, rfl⟩
theorem y_X9_isFruit : wYc yX9_isFruit cX9_isFruit 2 (some .boolean) 1 := ⟨lw_in (tb_7 _ (List.mem_of_getElem? (i := 223) rfl)) rfl, lw_in (tb_1 _ (List.mem_of_getElem? (i := 14) rfl)) rfl, by decide, by decide, by decide +kernel⟩
theorem v_X9_isFruit : wYi yX9_isFruit 9 := ⟨⟨lw_in (tb_7 _ (List.mem_of_getElem? (i := 222) rfl)) rfl, lw_at 94 (by decide +kernel) rfl⟩, _, rfl, by decide, rfl⟩
theorem y_X9_isOn : wYc yX9_isOn cX9_isOn 3 (some .boolean) 2 := ⟨lw_in (tb_7 _ (List.mem_of_getElem? (i := 208) rfl)) rfl, lw_in (tb_1 _ (List.mem_of_getElem? (i := 14) rfl)) rfl, by decide, by decide, by decide +kernel⟩
theorem v_X9_isOn : wYi yX9_isOn 9 := ⟨⟨lw_in (tb_7 _ (List.mem_of_getElem? (i := 207) rfl)) rfl, lw_at 92 (by decide +kernel) rfl⟩, _, rfl, by decide, rfl⟩
theorem y_X9_thereMany : wYc yX9_thereMany cX9_thereMany 4 (some .int) 1 := ⟨lw_in (tb_8 _ (List.mem_of_getElem? (i := 0) rfl)) rfl, lw_in (tb_1 _ (List.mem_of_getElem? (i := 14) rfl)) rfl, by decide, by decide, by decide +kernel⟩
theorem v_X9_thereMany : wYi yX9_thereMany 9 := ⟨⟨lw_in (tb_7 _ (List.mem_of_getElem? (i := 239) rfl)) rfl, lw_at 97 (by decide +kernel) rfl⟩, _, rfl, by decide, rfl⟩
theorem y_X9_sweetIn : wYc yX9_sweetIn cX9_sweetIn 2 (some .int) 1 := ⟨lw_in (tb_7 _ (List.mem_of_getElem? (i := 236) rfl)) rfl, lw_in (tb_1 _ (List.mem_of_getElem? (i := 14) rfl)) rfl, by decide, by decide, by decide +kernel⟩
theorem v_X9_sweetIn : wYi yX9_sweetIn 9 := ⟨⟨lw_in (tb_7 _ (List.mem_of_getElem? (i := 235) rfl)) rfl, lw_at 96 (by decide +kernel) rfl⟩, _, rfl, by decide, rfl⟩
theorem y_X9_isReal : wYc yX9_isReal cX9_isReal 2 (some .boolean) 1 := ⟨lw_in (tb_8 _ (List.mem_of_getElem? (i := 73) rfl)) rfl, lw_in (tb_1 _ (List.mem_of_getElem? (i := 14) rfl)) rfl, by decide, by decide, by decide +kernel⟩
theorem v_X9_isReal : wYi yX9_isReal 9 := ⟨⟨lw_in (tb_8 _ (List.mem_of_getElem? (i := 72) rfl)) rfl, lw_at 110 (by decide +kernel) rfl⟩, _, rfl, by decide, rfl⟩
theorem y_X9_layNames : wYc yX9_layNames cX9_layNames 4 none 3 := ⟨lw_in (tb_7 _ (List.mem_of_getElem? (i := 232) rfl)) rfl, lw_in (tb_1 _ (List.mem_of_getElem? (i := 14) rfl)) rfl, by decide, by decide, by decide +kernel⟩
theorem v_X9_layNames : wYi yX9_layNames 9 := ⟨⟨lw_in (tb_7 _ (List.mem_of_getElem? (i := 231) rfl)) rfl, lw_at 95 (by decide +kernel) rfl⟩, _, rfl, by decide, rfl⟩
theorem y_X9_lawOf : wYc yX9_lawOf cX9_lawOf 3 (some .long) 1 := ⟨lw_in (tb_8 _ (List.mem_of_getElem? (i := 4) rfl)) rfl, lw_in (tb_1 _ (List.mem_of_getElem? (i := 14) rfl)) rfl, by decide, by decide, by decide +kernel⟩
theorem v_X9_lawOf : wYi yX9_lawOf 9 := ⟨⟨lw_in (tb_8 _ (List.mem_of_getElem? (i := 3) rfl)) rfl, lw_at 98 (by decide +kernel) rfl⟩, _, rfl, by decide, rfl⟩
theorem y_X9_boundLaw : wYc yX9_boundLaw cX9_boundLaw 5 (some .int) 2 := ⟨lw_in (tb_8 _ (List.mem_of_getElem? (i := 77) rfl)) rfl, lw_in (tb_1 _ (List.mem_of_getElem? (i := 14) rfl)) rfl, by decide, by decide, by decide +kernel⟩
theorem v_X9_boundLaw : wYi yX9_boundLaw 9 := ⟨⟨lw_in (tb_8 _ (List.mem_of_getElem? (i := 76) rfl)) rfl, lw_at 111 (by decide +kernel) rfl⟩, _, rfl, by decide, rfl⟩
theorem y_X9_praiseOf : wYc yX9_praiseOf cX9_praiseOf 5 (some .int) 3 := ⟨lw_in (tb_8 _ (List.mem_of_getElem? (i := 86) rfl)) rfl, lw_in (tb_1 _ (List.mem_of_getElem? (i := 14) rfl)) rfl, by decide, by decide, by decide +kernel⟩
theorem v_X9_praiseOf : wYi yX9_praiseOf 9 := ⟨⟨lw_in (tb_8 _ (List.mem_of_getElem? (i := 85) rfl)) rfl, lw_at 113 (by decide +kernel) rfl⟩, _, rfl, by decide, rfl⟩
theorem y_X9_isDaring : wYc yX9_isDaring cX9_isDaring 7 (some .boolean) 3 := ⟨lw_in (tb_8 _ (List.mem_of_getElem? (i := 65) rfl)) rfl, lw_in (tb_1 _ (List.mem_of_getElem? (i := 14) rfl)) rfl, by decide, by decide, by decide +kernel⟩
theorem v_X9_isDaring : wYi yX9_isDaring 9 := ⟨⟨lw_in (tb_8 _ (List.mem_of_getElem? (i := 64) rfl)) rfl, lw_at 108 (by decide +kernel) rfl⟩, _, rfl, by decide, rfl⟩
theorem y_X9_far : wYc yX9_far cX9_far 7 (some .int) 3 := ⟨lw_in (tb_7 _ (List.mem_of_getElem? (i := 215) rfl)) rfl, lw_in (tb_1 _ (List.mem_of_getElem? (i := 14) rfl)) rfl, by decide, by decide, by decide +kernel⟩
theorem v_X9_far : wYi yX9_far 9 := ⟨⟨lw_in (tb_7 _ (List.mem_of_getElem? (i := 214) rfl)) rfl, lw_at 93 (by decide +kernel) rfl⟩, _, rfl, by decide, rfl⟩
theorem y_X9_hears : wYc yX9_hears cX9_hears 4 (some .boolean) 3 := ⟨lw_in (tb_7 _ (List.mem_of_getElem? (i := 204) rfl)) rfl, lw_in (tb_1 _ (List.mem_of_getElem? (i := 14) rfl)) rfl, by decide, by decide, by decide +kernel⟩
theorem v_X9_hears : wYi yX9_hears 9 := ⟨⟨lw_in (tb_7 _ (List.mem_of_getElem? (i := 203) rfl)) rfl, lw_at 91 (by decide +kernel) rfl⟩, _, rfl, by decide, rfl⟩
theorem y_X9_number1 : wYc yX9_number1 cX9_number1 2 (some .int) 1 := ⟨lw_in (tb_8 _ (List.mem_of_getElem? (i := 94) rfl)) rfl, lw_in (tb_1 _ (List.mem_of_getElem? (i := 14) rfl)) rfl, by decide, by decide, by decide +kernel⟩
theorem v_X9_number1 : wYi yX9_number1 9 := ⟨⟨lw_in (tb_8 _ (List.mem_of_getElem? (i := 93) rfl)) rfl, lw_at 115 (by decide +kernel) rfl⟩, _, rfl, by decide, rfl⟩
theorem y_X9_isDraught : wYc yX9_isDraught cX9_isDraught 1 (some .boolean) 0 := ⟨lw_in (tb_8 _ (List.mem_of_getElem? (i := 90) rfl)) rfl, lw_in (tb_1 _ (List.mem_of_getElem? (i := 14) rfl)) rfl, by decide, by decide, by decide +kernel⟩
theorem v_X9_isDraught : wYi yX9_isDraught 9 := ⟨⟨lw_in (tb_8 _ (List.mem_of_getElem? (i := 89) rfl)) rfl, lw_at 114 (by decide +kernel) rfl⟩, _, rfl, by decide, rfl⟩
theorem y_X9_isTold : wYc yX9_isTold cX9_isTold 4 (some .boolean) 2 := ⟨lw_in (tb_8 _ (List.mem_of_getElem? (i := 61) rfl)) rfl, lw_in (tb_1 _ (List.mem_of_getElem? (i := 14) rfl)) rfl, by decide, by decide, by decide +kernel⟩
theorem v_X9_isTold : wYi yX9_isTold 9 := ⟨⟨lw_in (tb_8 _ (List.mem_of_getElem? (i := 60) rfl)) rfl, lw_at 107 (by decide +kernel) rfl⟩, _, rfl, by decide, rfl⟩
theorem y_X9_sitsAt : wYc yX9_sitsAt cX9_sitsAt 4 (some .int) 2 := ⟨lw_in (tb_8 _ (List.mem_of_getElem? (i := 57) rfl)) rfl, lw_in (tb_1 _ (List.mem_of_getElem? (i := 14) rfl)) rfl, by decide, by decide, by decide +kernel⟩
theorem v_X9_sitsAt : wYi yX9_sitsAt 9 := ⟨⟨lw_in (tb_8 _ (List.mem_of_getElem? (i := 56) rfl)) rfl, lw_at 106 (by decide +kernel) rfl⟩, _, rfl, by decide, rfl⟩
theorem y_X9_bites : wYc yX9_bites cX9_bites 6 none 3 := ⟨lw_in (tb_8 _ (List.mem_of_getElem? (i := 69) rfl)) rfl, lw_in (tb_1 _ (List.mem_of_getElem? (i := 14) rfl)) rfl, by decide, by decide, by decide +kernel⟩
theorem v_X9_bites : wYi yX9_bites 9 := ⟨⟨lw_in (tb_8 _ (List.mem_of_getElem? (i := 68) rfl)) rfl, lw_at 109 (by decide +kernel) rfl⟩, _, rfl, by decide, rfl⟩
theorem y_X9_praises : wYc yX9_praises cX9_praises 7 none 3 := ⟨lw_in (tb_8 _ (List.mem_of_getElem? (i := 82) rfl)) rfl, lw_in (tb_1 _ (List.mem_of_getElem? (i := 14) rfl)) rfl, by decide, by decide, by decide +kernel⟩
theorem v_X9_praises : wYi yX9_praises 9 := ⟨⟨lw_in (tb_8 _ (List.mem_of_getElem? (i := 81) rfl)) rfl, lw_at 112 (by decide +kernel) rfl⟩, _, rfl, by decide, rfl⟩
theorem y_X9_stepGoes : wYc yX9_stepGoes cX9_stepGoes 4 none 1 := ⟨lw_in (tb_8 _ (List.mem_of_getElem? (i := 53) rfl)) rfl, lw_in (tb_1 _ (List.mem_of_getElem? (i := 14) rfl)) rfl, by decide, by decide, by decide +kernel⟩
theorem v_X9_stepGoes : wYi yX9_stepGoes 9 := ⟨⟨lw_in (tb_8 _ (List.mem_of_getElem? (i := 52) rfl)) rfl, lw_at 105 (by decide +kernel) rfl⟩, _, rfl, by decide, rfl⟩
theorem y_X9_goMany : wYc yX9_goMany cX9_goMany 3 none 1 := ⟨lw_in (tb_8 _ (List.mem_of_getElem? (i := 110) rfl)) rfl, lw_in (tb_1 _ (List.mem_of_getElem? (i := 14) rfl)) rfl, by decide, by decide, by decide +kernel⟩
theorem v_X9_goMany : wYi yX9_goMany 9 := ⟨⟨lw_in (tb_8 _ (List.mem_of_getElem? (i := 109) rfl)) rfl, lw_at 117 (by decide +kernel) rfl⟩, _, rfl, by decide, rfl⟩
theorem y_X9_bitesAll : wYc yX9_bitesAll cX9_bitesAll 4 (some .int) 1 := ⟨lw_in (tb_8 _ (List.mem_of_getElem? (i := 114) rfl)) rfl, lw_in (tb_1 _ (List.mem_of_getElem? (i := 14) rfl)) rfl, by decide, by decide, by decide +kernel⟩
theorem v_X9_bitesAll : wYi yX9_bitesAll 9 := ⟨⟨lw_in (tb_8 _ (List.mem_of_getElem? (i := 113) rfl)) rfl, lw_at 118 (by decide +kernel) rfl⟩, _, rfl, by decide, rfl⟩
theorem y_X9_fainted : wYc yX9_fainted cX9_fainted 4 (some .int) 1 := ⟨lw_in (tb_8 _ (List.mem_of_getElem? (i := 118) rfl)) rfl, lw_in (tb_1 _ (List.mem_of_getElem? (i := 14) rfl)) rfl, by decide, by decide, by decide +kernel⟩
theorem v_X9_fainted : wYi yX9_fainted 9 := ⟨⟨lw_in (tb_8 _ (List.mem_of_getElem? (i := 117) rfl)) rfl, lw_at 119 (by decide +kernel) rfl⟩, _, rfl, by decide, rfl⟩
theorem y_X9_fedAll : wYc yX9_fedAll cX9_fedAll 4 (some .int) 1 := ⟨lw_in (tb_8 _ (List.mem_of_getElem? (i := 122) rfl)) rfl, lw_in (tb_1 _ (List.mem_of_getElem? (i := 14) rfl)) rfl, by decide, by decide, by decide +kernel⟩
theorem v_X9_fedAll : wYi yX9_fedAll 9 := ⟨⟨lw_in (tb_8 _ (List.mem_of_getElem? (i := 121) rfl)) rfl, lw_at 120 (by decide +kernel) rfl⟩, _, rfl, by decide, rfl⟩
theorem y_X9_fails : wYc yX9_fails cX9_fails 2 (some .int) 1 := ⟨lw_in (tb_7 _ (List.mem_of_getElem? (i := 196) rfl)) rfl, lw_in (tb_1 _ (List.mem_of_getElem? (i := 14) rfl)) rfl, by decide, by decide, by decide +kernel⟩
theorem v_X9_fails : wYi yX9_fails 9 := ⟨⟨lw_in (tb_7 _ (List.mem_of_getElem? (i := 195) rfl)) rfl, lw_at 89 (by decide +kernel) rfl⟩, _, rfl, by decide, rfl⟩
theorem y_X9_hearing : wYc yX9_hearing cX9_hearing 5 (some .int) 2 := ⟨lw_in (tb_7 _ (List.mem_of_getElem? (i := 200) rfl)) rfl, lw_in (tb_1 _ (List.mem_of_getElem? (i := 14) rfl)) rfl, by decide, by decide, by decide +kernel⟩
theorem v_X9_hearing : wYi yX9_hearing 9 := ⟨⟨lw_in (tb_7 _ (List.mem_of_getElem? (i := 199) rfl)) rfl, lw_at 90 (by decide +kernel) rfl⟩, _, rfl, by decide, rfl⟩
theorem y_X9_guest : wYc yX9_guest cX9_guest 3 (some .int) 2 := ⟨lw_in (tb_7 _ (List.mem_of_getElem? (i := 188) rfl)) rfl, lw_in (tb_1 _ (List.mem_of_getElem? (i := 14) rfl)) rfl, by decide, by decide, by decide +kernel⟩
theorem v_X9_guest : wYi yX9_guest 9 := ⟨⟨lw_in (tb_7 _ (List.mem_of_getElem? (i := 186) rfl)) rfl, lw_in (tb_7 _ (List.mem_of_getElem? (i := 187) rfl)) rfl⟩, _, rfl, by decide, rfl⟩
theorem y_X9_fruit : wYc yX9_fruit cX9_fruit 3 (some .int) 2 := ⟨lw_in (tb_7 _ (List.mem_of_getElem? (i := 219) rfl)) rfl, lw_in (tb_1 _ (List.mem_of_getElem? (i := 14) rfl)) rfl, by decide, by decide, by decide +kernel⟩
theorem v_X9_fruit : wYi yX9_fruit 9 := ⟨⟨lw_in (tb_7 _ (List.mem_of_getElem? (i := 217) rfl)) rfl, lw_in (tb_7 _ (List.mem_of_getElem? (i := 218) rfl)) rfl⟩, _, rfl, by decide, rfl⟩
theorem y_X9_law : wYc yX9_law cX9_law 6 (some .long) 3 := ⟨lw_in (tb_7 _ (List.mem_of_getElem? (i := 227) rfl)) rfl, lw_in (tb_1 _ (List.mem_of_getElem? (i := 14) rfl)) rfl, by decide, by decide, by decide +kernel⟩
theorem v_X9_law : wYi yX9_law 9 := ⟨⟨lw_in (tb_7 _ (List.mem_of_getElem? (i := 225) rfl)) rfl, lw_in (tb_7 _ (List.mem_of_getElem? (i := 226) rfl)) rfl⟩, _, rfl, by decide, rfl⟩
theorem y_X9_areTwo : wYc yX9_areTwo cX9_areTwo 3 (some .boolean) 2 := ⟨lw_in (tb_8 _ (List.mem_of_getElem? (i := 29) rfl)) rfl, lw_in (tb_1 _ (List.mem_of_getElem? (i := 14) rfl)) rfl, by decide, by decide, by decide +kernel⟩
theorem v_X9_areTwo : wYi yX9_areTwo 9 := ⟨⟨lw_in (tb_8 _ (List.mem_of_getElem? (i := 28) rfl)) rfl, lw_at 102 (by decide +kernel) rfl⟩, _, rfl, by decide, rfl⟩
theorem y_X9_seat : wYc yX9_seat cX9_seat 4 (some .boolean) 2 := ⟨lw_in (tb_8 _ (List.mem_of_getElem? (i := 25) rfl)) rfl, lw_in (tb_1 _ (List.mem_of_getElem? (i := 14) rfl)) rfl, by decide, by decide, by decide +kernel⟩
theorem v_X9_seat : wYi yX9_seat 9 := ⟨⟨lw_in (tb_8 _ (List.mem_of_getElem? (i := 23) rfl)) rfl, lw_in (tb_8 _ (List.mem_of_getElem? (i := 24) rfl)) rfl⟩, _, rfl, by decide, rfl⟩
theorem y_X9_bread : wYc yX9_bread cX9_bread 3 (some .int) 2 := ⟨lw_in (tb_8 _ (List.mem_of_getElem? (i := 41) rfl)) rfl, lw_in (tb_1 _ (List.mem_of_getElem? (i := 14) rfl)) rfl, by decide, by decide, by decide +kernel⟩
theorem v_X9_bread : wYi yX9_bread 9 := ⟨⟨lw_in (tb_8 _ (List.mem_of_getElem? (i := 39) rfl)) rfl, lw_in (tb_8 _ (List.mem_of_getElem? (i := 40) rfl)) rfl⟩, _, rfl, by decide, rfl⟩
theorem y_X9_wake : wYc yX9_wake cX9_wake 2 (some .boolean) 1 := ⟨lw_in (tb_8 _ (List.mem_of_getElem? (i := 45) rfl)) rfl, lw_in (tb_1 _ (List.mem_of_getElem? (i := 14) rfl)) rfl, by decide, by decide, by decide +kernel⟩
theorem v_X9_wake : wYi yX9_wake 9 := ⟨⟨lw_in (tb_8 _ (List.mem_of_getElem? (i := 43) rfl)) rfl, lw_in (tb_8 _ (List.mem_of_getElem? (i := 44) rfl)) rfl⟩, _, rfl, by decide, rfl⟩
theorem y_X9_go : wYc yX9_go cX9_go 3 (some .int) 1 := ⟨lw_in (tb_8 _ (List.mem_of_getElem? (i := 49) rfl)) rfl, lw_in (tb_1 _ (List.mem_of_getElem? (i := 14) rfl)) rfl, by decide, by decide, by decide +kernel⟩
theorem v_X9_go : wYi yX9_go 9 := ⟨⟨lw_in (tb_8 _ (List.mem_of_getElem? (i := 47) rfl)) rfl, lw_in (tb_8 _ (List.mem_of_getElem? (i := 48) rfl)) rfl⟩, _, rfl, by decide, rfl⟩
theorem y_X9_ahead : wYc yX9_ahead cX9_ahead 4 (some .int) 3 := ⟨lw_in (tb_8 _ (List.mem_of_getElem? (i := 102) rfl)) rfl, lw_in (tb_1 _ (List.mem_of_getElem? (i := 14) rfl)) rfl, by decide, by decide, by decide +kernel⟩
theorem v_X9_ahead : wYi yX9_ahead 9 := ⟨⟨lw_in (tb_8 _ (List.mem_of_getElem? (i := 100) rfl)) rfl, lw_in (tb_8 _ (List.mem_of_getElem? (i := 101) rfl)) rfl⟩, _, rfl, by decide, rfl⟩
theorem y_X9_swoon : wYc yX9_swoon cX9_swoon 3 (some .int) 1 := ⟨lw_in (tb_8 _ (List.mem_of_getElem? (i := 126) rfl)) rfl, lw_in (tb_1 _ (List.mem_of_getElem? (i := 14) rfl)) rfl, by decide, by decide, by decide +kernel⟩
theorem v_X9_swoon : wYi yX9_swoon 9 := ⟨⟨lw_in (tb_8 _ (List.mem_of_getElem? (i := 124) rfl)) rfl, lw_in (tb_8 _ (List.mem_of_getElem? (i := 125) rfl)) rfl⟩, _, rfl, by decide, rfl⟩
theorem y_X9_nextBite : wYc yX9_nextBite cX9_nextBite 3 (some .int) 1 := ⟨lw_in (tb_8 _ (List.mem_of_getElem? (i := 130) rfl)) rfl, lw_in (tb_1 _ (List.mem_of_getElem? (i := 14) rfl)) rfl, by decide, by decide, by decide +kernel⟩
theorem v_X9_nextBite : wYi yX9_nextBite 9 := ⟨⟨lw_in (tb_8 _ (List.mem_of_getElem? (i := 128) rfl)) rfl, lw_in (tb_8 _ (List.mem_of_getElem? (i := 129) rfl)) rfl⟩, _, rfl, by decide, rfl⟩
theorem y_X9_eatenIn : wYc yX9_eatenIn cX9_eatenIn 3 (some .int) 1 := ⟨lw_in (tb_8 _ (List.mem_of_getElem? (i := 134) rfl)) rfl, lw_in (tb_1 _ (List.mem_of_getElem? (i := 14) rfl)) rfl, by decide, by decide, by decide +kernel⟩
theorem v_X9_eatenIn : wYi yX9_eatenIn 9 := ⟨⟨lw_in (tb_8 _ (List.mem_of_getElem? (i := 132) rfl)) rfl, lw_in (tb_8 _ (List.mem_of_getElem? (i := 133) rfl)) rfl⟩, _, rfl, by decide, rfl⟩
theorem y_X9_hold : wYc yX9_hold cX9_hold 2 (some .int) 0 := ⟨lw_in (tb_8 _ (List.mem_of_getElem? (i := 138) rfl)) rfl, lw_in (tb_1 _ (List.mem_of_getElem? (i := 14) rfl)) rfl, by decide, by decide, by decide +kernel⟩
theorem v_X9_hold : wYi yX9_hold 9 := ⟨⟨lw_in (tb_8 _ (List.mem_of_getElem? (i := 136) rfl)) rfl, lw_in (tb_8 _ (List.mem_of_getElem? (i := 137) rfl)) rfl⟩, _, rfl, by decide, rfl⟩
theorem y_X9_rowsOf : wYc yX9_rowsOf cX9_rowsOf 3 (some .int) 1 := ⟨lw_in (tb_8 _ (List.mem_of_getElem? (i := 145) rfl)) rfl, lw_in (tb_1 _ (List.mem_of_getElem? (i := 14) rfl)) rfl, by decide, by decide, by decide +kernel⟩
theorem v_X9_rowsOf : Cond.static yX9_rowsOf ∈ lw_tb := lw_in (tb_8 _ (List.mem_of_getElem? (i := 144) rfl)) rfl
theorem y_X9_layRow : wYc yX9_layRow cX9_layRow 10 none 3 := ⟨lw_in (tb_8 _ (List.mem_of_getElem? (i := 149) rfl)) rfl, lw_in (tb_1 _ (List.mem_of_getElem? (i := 14) rfl)) rfl, by decide, by decide, by decide +kernel⟩
theorem v_X9_layRow : wYi yX9_layRow 9 := ⟨⟨lw_in (tb_8 _ (List.mem_of_getElem? (i := 148) rfl)) rfl, lw_at 121 (by decide +kernel) rfl⟩, _, rfl, by decide, rfl⟩
theorem y_X9_table : wYc yX9_table cX9_table 7 (some .int) 1 := ⟨lw_in (tb_8 _ (List.mem_of_getElem? (i := 142) rfl)) rfl, lw_in (tb_1 _ (List.mem_of_getElem? (i := 14) rfl)) rfl, by decide, by decide, by decide +kernel⟩
theorem v_X9_table : wYi yX9_table 9 := ⟨⟨lw_in (tb_8 _ (List.mem_of_getElem? (i := 140) rfl)) rfl, lw_in (tb_8 _ (List.mem_of_getElem? (i := 141) rfl)) rfl⟩, _, rfl, by decide, rfl⟩
theorem y_X9_manyOf : wYc yX9_manyOf cX9_manyOf 3 (some .int) 1 := ⟨lw_in (tb_8 _ (List.mem_of_getElem? (i := 160) rfl)) rfl, lw_in (tb_1 _ (List.mem_of_getElem? (i := 14) rfl)) rfl, by decide, by decide, by decide +kernel⟩
theorem v_X9_manyOf : Cond.static yX9_manyOf ∈ lw_tb := lw_in (tb_8 _ (List.mem_of_getElem? (i := 159) rfl)) rfl
theorem y_X9_thereBits : wYc yX9_thereBits cX9_thereBits 3 (some .int) 0 := ⟨lw_in (tb_8 _ (List.mem_of_getElem? (i := 157) rfl)) rfl, lw_in (tb_1 _ (List.mem_of_getElem? (i := 14) rfl)) rfl, by decide, by decide, by decide +kernel⟩
theorem v_X9_thereBits : wYi yX9_thereBits 9 := ⟨⟨lw_in (tb_8 _ (List.mem_of_getElem? (i := 156) rfl)) rfl, lw_at 122 (by decide +kernel) rfl⟩, _, rfl, by decide, rfl⟩
theorem y_X9_isCalm : wYc yX9_isCalm cX9_isCalm 3 (some .boolean) 1 := ⟨lw_in (tb_8 _ (List.mem_of_getElem? (i := 164) rfl)) rfl, lw_in (tb_1 _ (List.mem_of_getElem? (i := 14) rfl)) rfl, by decide, by decide, by decide +kernel⟩
theorem v_X9_isCalm : wYi yX9_isCalm 9 := ⟨⟨lw_in (tb_8 _ (List.mem_of_getElem? (i := 163) rfl)) rfl, lw_at 123 (by decide +kernel) rfl⟩, _, rfl, by decide, rfl⟩
theorem y_X9_calm : wYc yX9_calm cX9_calm 4 (some .int) 0 := ⟨lw_in (tb_8 _ (List.mem_of_getElem? (i := 153) rfl)) rfl, lw_in (tb_1 _ (List.mem_of_getElem? (i := 14) rfl)) rfl, by decide, by decide, by decide +kernel⟩
theorem v_X9_calm : wYi yX9_calm 9 := ⟨⟨lw_in (tb_8 _ (List.mem_of_getElem? (i := 151) rfl)) rfl, lw_in (tb_8 _ (List.mem_of_getElem? (i := 152) rfl)) rfl⟩, _, rfl, by decide, rfl⟩
theorem y_X9_loaf : wYc yX9_loaf cX9_loaf 4 (some .int) 2 := ⟨lw_in (tb_8 _ (List.mem_of_getElem? (i := 168) rfl)) rfl, lw_in (tb_1 _ (List.mem_of_getElem? (i := 14) rfl)) rfl, by decide, by decide, by decide +kernel⟩
theorem v_X9_loaf : wYi yX9_loaf 9 := ⟨⟨lw_in (tb_8 _ (List.mem_of_getElem? (i := 166) rfl)) rfl, lw_in (tb_8 _ (List.mem_of_getElem? (i := 167) rfl)) rfl⟩, _, rfl, by decide, rfl⟩
theorem y_X9_linksOf : wYc yX9_linksOf cX9_linksOf 7 (some .int) 2 := ⟨lw_in (tb_8 _ (List.mem_of_getElem? (i := 180) rfl)) rfl, lw_in (tb_1 _ (List.mem_of_getElem? (i := 14) rfl)) rfl, by decide, by decide, by decide +kernel⟩
theorem v_X9_linksOf : wYi yX9_linksOf 9 := ⟨⟨lw_in (tb_8 _ (List.mem_of_getElem? (i := 179) rfl)) rfl, lw_at 125 (by decide +kernel) rfl⟩, _, rfl, by decide, rfl⟩
theorem y_X9_areOn : wYc yX9_areOn cX9_areOn 3 (some .boolean) 2 := ⟨lw_in (tb_8 _ (List.mem_of_getElem? (i := 176) rfl)) rfl, lw_in (tb_1 _ (List.mem_of_getElem? (i := 14) rfl)) rfl, by decide, by decide, by decide +kernel⟩
theorem v_X9_areOn : wYi yX9_areOn 9 := ⟨⟨lw_in (tb_8 _ (List.mem_of_getElem? (i := 175) rfl)) rfl, lw_at 124 (by decide +kernel) rfl⟩, _, rfl, by decide, rfl⟩
theorem y_X9_chain : wYc yX9_chain cX9_chain 3 (some .int) 2 := ⟨lw_in (tb_8 _ (List.mem_of_getElem? (i := 172) rfl)) rfl, lw_in (tb_1 _ (List.mem_of_getElem? (i := 14) rfl)) rfl, by decide, by decide, by decide +kernel⟩
theorem v_X9_chain : wYi yX9_chain 9 := ⟨⟨lw_in (tb_8 _ (List.mem_of_getElem? (i := 170) rfl)) rfl, lw_in (tb_8 _ (List.mem_of_getElem? (i := 171) rfl)) rfl⟩, _, rfl, by decide, rfl⟩
theorem y_X9_part : wYc yX9_part cX9_part 6 (some .int) 2 := ⟨lw_in (tb_8 _ (List.mem_of_getElem? (i := 184) rfl)) rfl, lw_in (tb_1 _ (List.mem_of_getElem? (i := 14) rfl)) rfl, by decide, by decide, by decide +kernel⟩
theorem v_X9_part : wYi yX9_part 9 := ⟨⟨lw_in (tb_8 _ (List.mem_of_getElem? (i := 182) rfl)) rfl, lw_in (tb_8 _ (List.mem_of_getElem? (i := 183) rfl)) rfl⟩, _, rfl, by decide, rfl⟩
theorem y_X9_feeds : wYc yX9_feeds cX9_feeds 6 (some .int) 2 := ⟨lw_in (tb_8 _ (List.mem_of_getElem? (i := 192) rfl)) rfl, lw_in (tb_1 _ (List.mem_of_getElem? (i := 14) rfl)) rfl, by decide, by decide, by decide +kernel⟩
theorem v_X9_feeds : wYi yX9_feeds 9 := ⟨⟨lw_in (tb_8 _ (List.mem_of_getElem? (i := 191) rfl)) rfl, lw_at 126 (by decide +kernel) rfl⟩, _, rfl, by decide, rfl⟩
theorem y_X9_bestFed : wYc yX9_bestFed cX9_bestFed 6 (some .int) 1 := ⟨lw_in (tb_8 _ (List.mem_of_getElem? (i := 188) rfl)) rfl, lw_in (tb_1 _ (List.mem_of_getElem? (i := 14) rfl)) rfl, by decide, by decide, by decide +kernel⟩
theorem v_X9_bestFed : wYi yX9_bestFed 9 := ⟨⟨lw_in (tb_8 _ (List.mem_of_getElem? (i := 186) rfl)) rfl, lw_in (tb_8 _ (List.mem_of_getElem? (i := 187) rfl)) rfl⟩, _, rfl, by decide, rfl⟩
theorem y_X9_hasBy : wYc yX9_hasBy cX9_hasBy 5 (some .int) 4 := ⟨lw_in (tb_8 _ (List.mem_of_getElem? (i := 204) rfl)) rfl, lw_in (tb_1 _ (List.mem_of_getElem? (i := 14) rfl)) rfl, by decide, by decide, by decide +kernel⟩
theorem v_X9_hasBy : wYi yX9_hasBy 9 := ⟨⟨lw_in (tb_8 _ (List.mem_of_getElem? (i := 203) rfl)) rfl, lw_at 128 (by decide +kernel) rfl⟩, _, rfl, by decide, rfl⟩
theorem y_X9_restAt : wYc yX9_restAt cX9_restAt 8 (some .int) 3 := ⟨lw_in (tb_8 _ (List.mem_of_getElem? (i := 200) rfl)) rfl, lw_in (tb_1 _ (List.mem_of_getElem? (i := 14) rfl)) rfl, by decide, by decide, by decide +kernel⟩
theorem v_X9_restAt : wYi yX9_restAt 9 := ⟨⟨lw_in (tb_8 _ (List.mem_of_getElem? (i := 199) rfl)) rfl, lw_at 127 (by decide +kernel) rfl⟩, _, rfl, by decide, rfl⟩
theorem y_X9_rests : wYc yX9_rests cX9_rests 3 (some .int) 2 := ⟨lw_in (tb_8 _ (List.mem_of_getElem? (i := 196) rfl)) rfl, lw_in (tb_1 _ (List.mem_of_getElem? (i := 14) rfl)) rfl, by decide, by decide, by decide +kernel⟩
theorem v_X9_rests : wYi yX9_rests 9 := ⟨⟨lw_in (tb_8 _ (List.mem_of_getElem? (i := 194) rfl)) rfl, lw_in (tb_8 _ (List.mem_of_getElem? (i := 195) rfl)) rfl⟩, _, rfl, by decide, rfl⟩
theorem y_X9_rest : wYc yX9_rest cX9_rest 4 (some .int) 3 := ⟨lw_in (tb_8 _ (List.mem_of_getElem? (i := 208) rfl)) rfl, lw_in (tb_1 _ (List.mem_of_getElem? (i := 14) rfl)) rfl, by decide, by decide, by decide +kernel⟩
theorem v_X9_rest : wYi yX9_rest 9 := ⟨⟨lw_in (tb_8 _ (List.mem_of_getElem? (i := 206) rfl)) rfl, lw_in (tb_8 _ (List.mem_of_getElem? (i := 207) rfl)) rfl⟩, _, rfl, by decide, rfl⟩
theorem y_X9_warm : wYc yX9_warm cX9_warm 13 (some .long) 2 := ⟨lw_in (tb_8 _ (List.mem_of_getElem? (i := 212) rfl)) rfl, lw_in (tb_1 _ (List.mem_of_getElem? (i := 14) rfl)) rfl, by decide, by decide, by decide +kernel⟩
theorem v_X9_warm : wYi yX9_warm 9 := ⟨⟨lw_in (tb_8 _ (List.mem_of_getElem? (i := 210) rfl)) rfl, lw_in (tb_8 _ (List.mem_of_getElem? (i := 211) rfl)) rfl⟩, _, rfl, by decide, rfl⟩
theorem y_X9_bowl : wYc yX9_bowl cX9_bowl 2 (some .int) 0 := ⟨lw_in (tb_8 _ (List.mem_of_getElem? (i := 218) rfl)) rfl, lw_in (tb_1 _ (List.mem_of_getElem? (i := 14) rfl)) rfl, by decide, by decide, by decide +kernel⟩
theorem v_X9_bowl : wYi yX9_bowl 9 := ⟨⟨lw_in (tb_8 _ (List.mem_of_getElem? (i := 216) rfl)) rfl, lw_in (tb_8 _ (List.mem_of_getElem? (i := 217) rfl)) rfl⟩, _, rfl, by decide, rfl⟩
theorem y_X9_uppermost : wYc yX9_uppermost cX9_uppermost 1 (some .int) 0 := ⟨lw_in (tb_8 _ (List.mem_of_getElem? (i := 222) rfl)) rfl, lw_in (tb_1 _ (List.mem_of_getElem? (i := 14) rfl)) rfl, by decide, by decide, by decide +kernel⟩
theorem v_X9_uppermost : wYi yX9_uppermost 9 := ⟨⟨lw_in (tb_8 _ (List.mem_of_getElem? (i := 220) rfl)) rfl, lw_in (tb_8 _ (List.mem_of_getElem? (i := 221) rfl)) rfl⟩, _, rfl, by decide, rfl⟩
theorem y_X9_hungriest : wYc yX9_hungriest cX9_hungriest 3 (some .int) 0 := ⟨lw_in (tb_8 _ (List.mem_of_getElem? (i := 226) rfl)) rfl, lw_in (tb_1 _ (List.mem_of_getElem? (i := 14) rfl)) rfl, by decide, by decide, by decide +kernel⟩
theorem v_X9_hungriest : wYi yX9_hungriest 9 := ⟨⟨lw_in (tb_8 _ (List.mem_of_getElem? (i := 224) rfl)) rfl, lw_in (tb_8 _ (List.mem_of_getElem? (i := 225) rfl)) rfl⟩, _, rfl, by decide, rfl⟩
theorem y_X9_rudest : wYc yX9_rudest cX9_rudest 3 (some .int) 0 := ⟨lw_in (tb_8 _ (List.mem_of_getElem? (i := 230) rfl)) rfl, lw_in (tb_1 _ (List.mem_of_getElem? (i := 14) rfl)) rfl, by decide, by decide, by decide +kernel⟩
theorem v_X9_rudest : wYi yX9_rudest 9 := ⟨⟨lw_in (tb_8 _ (List.mem_of_getElem? (i := 228) rfl)) rfl, lw_in (tb_8 _ (List.mem_of_getElem? (i := 229) rfl)) rfl⟩, _, rfl, by decide, rfl⟩
theorem y_X9_marked : wYc yX9_marked cX9_marked 3 (some .int) 0 := ⟨lw_in (tb_8 _ (List.mem_of_getElem? (i := 234) rfl)) rfl, lw_in (tb_1 _ (List.mem_of_getElem? (i := 14) rfl)) rfl, by decide, by decide, by decide +kernel⟩
theorem v_X9_marked : wYi yX9_marked 9 := ⟨⟨lw_in (tb_8 _ (List.mem_of_getElem? (i := 232) rfl)) rfl, lw_in (tb_8 _ (List.mem_of_getElem? (i := 233) rfl)) rfl⟩, _, rfl, by decide, rfl⟩
theorem y_X9_grace : wYc yX9_grace cX9_grace 4 (some .int) 1 := ⟨lw_in (tb_8 _ (List.mem_of_getElem? (i := 238) rfl)) rfl, lw_in (tb_1 _ (List.mem_of_getElem? (i := 14) rfl)) rfl, by decide, by decide, by decide +kernel⟩
theorem v_X9_grace : wYi yX9_grace 9 := ⟨⟨lw_in (tb_8 _ (List.mem_of_getElem? (i := 236) rfl)) rfl, lw_in (tb_8 _ (List.mem_of_getElem? (i := 237) rfl)) rfl⟩, _, rfl, by decide, rfl⟩
theorem y_X9_untouched : wYc yX9_untouched cX9_untouched 3 (some .int) 0 := ⟨lw_in (tb_9 _ (List.mem_of_getElem? (i := 2) rfl)) rfl, lw_in (tb_1 _ (List.mem_of_getElem? (i := 14) rfl)) rfl, by decide, by decide, by decide +kernel⟩
theorem v_X9_untouched : wYi yX9_untouched 9 := ⟨⟨lw_in (tb_9 _ (List.mem_of_getElem? (i := 0) rfl)) rfl, lw_in (tb_9 _ (List.mem_of_getElem? (i := 1) rfl)) rfl⟩, _, rfl, by decide, rfl⟩
theorem y_X9_apart : wYc yX9_apart cX9_apart 3 (some .int) 2 := ⟨lw_in (tb_9 _ (List.mem_of_getElem? (i := 6) rfl)) rfl, lw_in (tb_1 _ (List.mem_of_getElem? (i := 14) rfl)) rfl, by decide, by decide, by decide +kernel⟩
theorem v_X9_apart : wYi yX9_apart 9 := ⟨⟨lw_in (tb_9 _ (List.mem_of_getElem? (i := 4) rfl)) rfl, lw_in (tb_9 _ (List.mem_of_getElem? (i := 5) rfl)) rfl⟩, _, rfl, by decide, rfl⟩
theorem y_X9_noted : wYc yX9_noted cX9_noted 5 (some .int) 4 := ⟨lw_in (tb_9 _ (List.mem_of_getElem? (i := 14) rfl)) rfl, lw_in (tb_1 _ (List.mem_of_getElem? (i := 14) rfl)) rfl, by decide, by decide, by decide +kernel⟩
theorem v_X9_noted : wYi yX9_noted 9 := ⟨⟨lw_in (tb_9 _ (List.mem_of_getElem? (i := 13) rfl)) rfl, lw_at 129 (by decide +kernel) rfl⟩, _, rfl, by decide, rfl⟩
theorem y_X9_see : wYc yX9_see cX9_see 5 (some .int) 4 := ⟨lw_in (tb_9 _ (List.mem_of_getElem? (i := 10) rfl)) rfl, lw_in (tb_1 _ (List.mem_of_getElem? (i := 14) rfl)) rfl, by decide, by decide, by decide +kernel⟩
theorem v_X9_see : wYi yX9_see 9 := ⟨⟨lw_in (tb_9 _ (List.mem_of_getElem? (i := 8) rfl)) rfl, lw_in (tb_9 _ (List.mem_of_getElem? (i := 9) rfl)) rfl⟩, _, rfl, by decide, rfl⟩
theorem y_X9_strike : wYc yX9_strike cX9_strike 2 (some .int) 1 := ⟨lw_in (tb_9 _ (List.mem_of_getElem? (i := 18) rfl)) rfl, lw_in (tb_1 _ (List.mem_of_getElem? (i := 14) rfl)) rfl, by decide, by decide, by decide +kernel⟩
theorem v_X9_strike : wYi yX9_strike 9 := ⟨⟨lw_in (tb_9 _ (List.mem_of_getElem? (i := 16) rfl)) rfl, lw_in (tb_9 _ (List.mem_of_getElem? (i := 17) rfl)) rfl⟩, _, rfl, by decide, rfl⟩
theorem y_X9_known : wYc yX9_known cX9_known 2 (some .boolean) 1 := ⟨lw_in (tb_9 _ (List.mem_of_getElem? (i := 22) rfl)) rfl, lw_in (tb_1 _ (List.mem_of_getElem? (i := 14) rfl)) rfl, by decide, by decide, by decide +kernel⟩
theorem v_X9_known : wYi yX9_known 9 := ⟨⟨lw_in (tb_9 _ (List.mem_of_getElem? (i := 20) rfl)) rfl, lw_in (tb_9 _ (List.mem_of_getElem? (i := 21) rfl)) rfl⟩, _, rfl, by decide, rfl⟩
theorem y_X9_knownBy : wYc yX9_knownBy cX9_knownBy 1 (some .int) 0 := ⟨lw_in (tb_9 _ (List.mem_of_getElem? (i := 30) rfl)) rfl, lw_in (tb_1 _ (List.mem_of_getElem? (i := 14) rfl)) rfl, by decide, by decide, by decide +kernel⟩
theorem v_X9_knownBy : wYi yX9_knownBy 9 := ⟨⟨lw_in (tb_9 _ (List.mem_of_getElem? (i := 29) rfl)) rfl, lw_at 130 (by decide +kernel) rfl⟩, _, rfl, by decide, rfl⟩
theorem y_X9_isSo : wYc yX9_isSo cX9_isSo 3 (some .boolean) 1 := ⟨lw_in (tb_9 _ (List.mem_of_getElem? (i := 38) rfl)) rfl, lw_in (tb_1 _ (List.mem_of_getElem? (i := 14) rfl)) rfl, by decide, by decide, by decide +kernel⟩
theorem v_X9_isSo : wYi yX9_isSo 9 := ⟨⟨lw_in (tb_9 _ (List.mem_of_getElem? (i := 37) rfl)) rfl, lw_at 132 (by decide +kernel) rfl⟩, _, rfl, by decide, rfl⟩
theorem y_X9_fits : wYc yX9_fits cX9_fits 4 (some .boolean) 2 := ⟨lw_in (tb_9 _ (List.mem_of_getElem? (i := 34) rfl)) rfl, lw_in (tb_1 _ (List.mem_of_getElem? (i := 14) rfl)) rfl, by decide, by decide, by decide +kernel⟩
theorem v_X9_fits : wYi yX9_fits 9 := ⟨⟨lw_in (tb_9 _ (List.mem_of_getElem? (i := 33) rfl)) rfl, lw_at 131 (by decide +kernel) rfl⟩, _, rfl, by decide, rfl⟩
theorem y_X9_sweets : wYc yX9_sweets cX9_sweets 4 (some .int) 1 := ⟨lw_in (tb_9 _ (List.mem_of_getElem? (i := 26) rfl)) rfl, lw_in (tb_1 _ (List.mem_of_getElem? (i := 14) rfl)) rfl, by decide, by decide, by decide +kernel⟩
theorem v_X9_sweets : wYi yX9_sweets 9 := ⟨⟨lw_in (tb_9 _ (List.mem_of_getElem? (i := 24) rfl)) rfl, lw_in (tb_9 _ (List.mem_of_getElem? (i := 25) rfl)) rfl⟩, _, rfl, by decide, rfl⟩
theorem y_X9_chance : wYc yX9_chance cX9_chance 8 (some .int) 3 := ⟨lw_in (tb_9 _ (List.mem_of_getElem? (i := 42) rfl)) rfl, lw_in (tb_1 _ (List.mem_of_getElem? (i := 14) rfl)) rfl, by decide, by decide, by decide +kernel⟩
theorem v_X9_chance : wYi yX9_chance 9 := ⟨⟨lw_in (tb_9 _ (List.mem_of_getElem? (i := 40) rfl)) rfl, lw_in (tb_9 _ (List.mem_of_getElem? (i := 41) rfl)) rfl⟩, _, rfl, by decide, rfl⟩
theorem y_X9_tried : wYc yX9_tried cX9_tried 4 (some .int) 3 := ⟨lw_in (tb_9 _ (List.mem_of_getElem? (i := 46) rfl)) rfl, lw_in (tb_1 _ (List.mem_of_getElem? (i := 14) rfl)) rfl, by decide, by decide, by decide +kernel⟩
theorem v_X9_tried : wYi yX9_tried 9 := ⟨⟨lw_in (tb_9 _ (List.mem_of_getElem? (i := 44) rfl)) rfl, lw_in (tb_9 _ (List.mem_of_getElem? (i := 45) rfl)) rfl⟩, _, rfl, by decide, rfl⟩
theorem y_X9_put : wYc yX9_put cX9_put 4 none 2 := ⟨lw_in (tb_8 _ (List.mem_of_getElem? (i := 37) rfl)) rfl, lw_in (tb_1 _ (List.mem_of_getElem? (i := 14) rfl)) rfl, by decide, by decide, by decide +kernel⟩
theorem v_X9_put : wYi yX9_put 9 := ⟨⟨lw_in (tb_8 _ (List.mem_of_getElem? (i := 36) rfl)) rfl, lw_at 104 (by decide +kernel) rfl⟩, _, rfl, by decide, rfl⟩
theorem y_X9_take : wYc yX9_take cX9_take 4 none 2 := ⟨lw_in (tb_9 _ (List.mem_of_getElem? (i := 54) rfl)) rfl, lw_in (tb_1 _ (List.mem_of_getElem? (i := 14) rfl)) rfl, by decide, by decide, by decide +kernel⟩
theorem v_X9_take : wYi yX9_take 9 := ⟨⟨lw_in (tb_9 _ (List.mem_of_getElem? (i := 53) rfl)) rfl, lw_at 133 (by decide +kernel) rfl⟩, _, rfl, by decide, rfl⟩
theorem y_X9_remember : wYc yX9_remember cX9_remember 2 none 0 := ⟨lw_in (tb_8 _ (List.mem_of_getElem? (i := 33) rfl)) rfl, lw_in (tb_1 _ (List.mem_of_getElem? (i := 14) rfl)) rfl, by decide, by decide, by decide +kernel⟩
theorem v_X9_remember : wYi yX9_remember 9 := ⟨⟨lw_in (tb_8 _ (List.mem_of_getElem? (i := 32) rfl)) rfl, lw_at 103 (by decide +kernel) rfl⟩, _, rfl, by decide, rfl⟩
theorem y_X9_undo : wYc yX9_undo cX9_undo 1 (some .int) 0 := ⟨lw_in (tb_9 _ (List.mem_of_getElem? (i := 50) rfl)) rfl, lw_in (tb_1 _ (List.mem_of_getElem? (i := 14) rfl)) rfl, by decide, by decide, by decide +kernel⟩
theorem v_X9_undo : wYi yX9_undo 9 := ⟨⟨lw_in (tb_9 _ (List.mem_of_getElem? (i := 48) rfl)) rfl, lw_in (tb_9 _ (List.mem_of_getElem? (i := 49) rfl)) rfl⟩, _, rfl, by decide, rfl⟩
theorem y_X9_keep : wYc yX9_keep cX9_keep 2 (some .int) 0 := ⟨lw_in (tb_9 _ (List.mem_of_getElem? (i := 58) rfl)) rfl, lw_in (tb_1 _ (List.mem_of_getElem? (i := 14) rfl)) rfl, by decide, by decide, by decide +kernel⟩
theorem v_X9_keep : wYi yX9_keep 9 := ⟨⟨lw_in (tb_9 _ (List.mem_of_getElem? (i := 56) rfl)) rfl, lw_in (tb_9 _ (List.mem_of_getElem? (i := 57) rfl)) rfl⟩, _, rfl, by decide, rfl⟩
theorem y_X9_back : wYc yX9_back cX9_back 2 (some .int) 0 := ⟨lw_in (tb_9 _ (List.mem_of_getElem? (i := 62) rfl)) rfl, lw_in (tb_1 _ (List.mem_of_getElem? (i := 14) rfl)) rfl, by decide, by decide, by decide +kernel⟩
theorem v_X9_back : wYi yX9_back 9 := ⟨⟨lw_in (tb_9 _ (List.mem_of_getElem? (i := 60) rfl)) rfl, lw_in (tb_9 _ (List.mem_of_getElem? (i := 61) rfl)) rfl⟩, _, rfl, by decide, rfl⟩
theorem y_X9_count : wYc yX9_count cX9_count 4 (some .int) 1 := ⟨lw_in (tb_9 _ (List.mem_of_getElem? (i := 66) rfl)) rfl, lw_in (tb_1 _ (List.mem_of_getElem? (i := 14) rfl)) rfl, by decide, by decide, by decide +kernel⟩
theorem v_X9_count : wYi yX9_count 9 := ⟨⟨lw_in (tb_9 _ (List.mem_of_getElem? (i := 64) rfl)) rfl, lw_in (tb_9 _ (List.mem_of_getElem? (i := 65) rfl)) rfl⟩, _, rfl, by decide, rfl⟩
theorem y_J6_bitCount_0f7a4 : wYc yJ6_bitCount_0f7a4 cJ6_bitCount_0f7a4 1 (some .int) 1 := ⟨lw_in (tb_4 _ (List.mem_of_getElem? (i := 1) rfl)) rfl, lw_in (tb_1 _ (List.mem_of_getElem? (i := 21) rfl)) rfl, by decide, by decide, by decide +kernel⟩
theorem v_J6_bitCount_0f7a4 : Cond.static yJ6_bitCount_0f7a4 ∈ lw_tb := lw_in (tb_4 _ (List.mem_of_getElem? (i := 0) rfl)) rfl
theorem y_J9_abs_0f7a4 : wYc yJ9_abs_0f7a4 cJ9_abs_0f7a4 1 (some .int) 1 := ⟨lw_in (tb_4 _ (List.mem_of_getElem? (i := 113) rfl)) rfl, lw_in (tb_1 _ (List.mem_of_getElem? (i := 15) rfl)) rfl, by decide, by decide, by decide +kernel⟩
theorem v_J9_abs_0f7a4 : Cond.static yJ9_abs_0f7a4 ∈ lw_tb := lw_in (tb_4 _ (List.mem_of_getElem? (i := 112) rfl)) rfl
theorem y_J9_max_7cf53 : wYc yJ9_max_7cf53 cJ9_max_7cf53 2 (some .int) 2 := ⟨lw_in (tb_4 _ (List.mem_of_getElem? (i := 52) rfl)) rfl, lw_in (tb_1 _ (List.mem_of_getElem? (i := 15) rfl)) rfl, by decide, by decide, by decide +kernel⟩
theorem v_J9_max_7cf53 : Cond.static yJ9_max_7cf53 ∈ lw_tb := lw_in (tb_4 _ (List.mem_of_getElem? (i := 51) rfl)) rfl
theorem y_J9_max_f86c9 : wYc yJ9_max_f86c9 cJ9_max_f86c9 4 (some .long) 2 := ⟨lw_in (tb_4 _ (List.mem_of_getElem? (i := 128) rfl)) rfl, lw_in (tb_1 _ (List.mem_of_getElem? (i := 15) rfl)) rfl, by decide, by decide, by decide +kernel⟩
theorem v_J9_max_f86c9 : Cond.static yJ9_max_f86c9 ∈ lw_tb := lw_in (tb_4 _ (List.mem_of_getElem? (i := 127) rfl)) rfl
theorem y_J9_min_7cf53 : wYc yJ9_min_7cf53 cJ9_min_7cf53 2 (some .int) 2 := ⟨lw_in (tb_3 _ (List.mem_of_getElem? (i := 42) rfl)) rfl, lw_in (tb_1 _ (List.mem_of_getElem? (i := 15) rfl)) rfl, by decide, by decide, by decide +kernel⟩
theorem v_J9_min_7cf53 : Cond.static yJ9_min_7cf53 ∈ lw_tb := lw_in (tb_3 _ (List.mem_of_getElem? (i := 41) rfl)) rfl
theorem y_J9_min_f86c9 : wYc yJ9_min_f86c9 cJ9_min_f86c9 4 (some .long) 2 := ⟨lw_in (tb_4 _ (List.mem_of_getElem? (i := 125) rfl)) rfl, lw_in (tb_1 _ (List.mem_of_getElem? (i := 15) rfl)) rfl, by decide, by decide, by decide +kernel⟩
theorem v_J9_min_f86c9 : Cond.static yJ9_min_f86c9 ∈ lw_tb := lw_in (tb_4 _ (List.mem_of_getElem? (i := 124) rfl)) rfl
theorem y_J0_length_8abf5 : wYc yJ0_length_8abf5 cJ0_length_8abf5 1 (some .int) 0 := ⟨lw_in (tb_1 _ (List.mem_of_getElem? (i := 175) rfl)) rfl, lw_in (tb_1 _ (List.mem_of_getElem? (i := 6) rfl)) rfl, by decide, by decide, by decide +kernel⟩
theorem y_J0_charAt_5068e : wYc yJ0_charAt_5068e cJ0_charAt_5068e 2 (some .char) 1 := ⟨lw_in (tb_1 _ (List.mem_of_getElem? (i := 185) rfl)) rfl, lw_in (tb_1 _ (List.mem_of_getElem? (i := 6) rfl)) rfl, by decide, by decide, by decide +kernel⟩
theorem y_J0_coder_7d493 : wYc yJ0_coder_7d493 cJ0_coder_7d493 1 (some .byte) 0 := ⟨lw_in (tb_1 _ (List.mem_of_getElem? (i := 179) rfl)) rfl, lw_in (tb_1 _ (List.mem_of_getElem? (i := 6) rfl)) rfl, by decide, by decide, by decide +kernel⟩
theorem y_J0_isLatin1_aae02 : wYc yJ0_isLatin1_aae02 cJ0_isLatin1_aae02 1 (some .boolean) 0 := ⟨lw_in (tb_1 _ (List.mem_of_getElem? (i := 189) rfl)) rfl, lw_in (tb_1 _ (List.mem_of_getElem? (i := 6) rfl)) rfl, by decide, by decide, by decide +kernel⟩
theorem y_J0_checkIndex_df160 : wYc yJ0_checkIndex_df160 cJ0_checkIndex_df160 2 none 2 := ⟨lw_in (tb_1 _ (List.mem_of_getElem? (i := 195) rfl)) rfl, lw_in (tb_1 _ (List.mem_of_getElem? (i := 6) rfl)) rfl, by decide, by decide, by decide +kernel⟩
theorem v_J0_checkIndex_df160 : Cond.static yJ0_checkIndex_df160 ∈ lw_tb := lw_in (tb_1 _ (List.mem_of_getElem? (i := 194) rfl)) rfl
theorem y_J1_charAt_3b067 : wYc yJ1_charAt_3b067 cJ1_charAt_3b067 2 (some .char) 2 := ⟨lw_in (tb_1 _ (List.mem_of_getElem? (i := 192) rfl)) rfl, lw_in (tb_1 _ (List.mem_of_getElem? (i := 7) rfl)) rfl, by decide, by decide, by decide +kernel⟩
theorem v_J1_charAt_3b067 : Cond.static yJ1_charAt_3b067 ∈ lw_tb := lw_in (tb_1 _ (List.mem_of_getElem? (i := 191) rfl)) rfl
theorem y_J2_getChar_3b067 : wYc yJ2_getChar_3b067 cJ2_getChar_3b067 2 (some .char) 2 := ⟨lw_in (tb_1 _ (List.mem_of_getElem? (i := 213) rfl)) rfl, lw_in (tb_1 _ (List.mem_of_getElem? (i := 9) rfl)) rfl, by decide, by decide, by decide +kernel⟩
theorem v_J2_getChar_3b067 : Cond.static yJ2_getChar_3b067 ∈ lw_tb := lw_in (tb_1 _ (List.mem_of_getElem? (i := 212) rfl)) rfl
theorem y_J2_length_9d52b : wYc yJ2_length_9d52b cJ2_length_9d52b 1 (some .int) 1 := ⟨lw_in (tb_1 _ (List.mem_of_getElem? (i := 209) rfl)) rfl, lw_in (tb_1 _ (List.mem_of_getElem? (i := 9) rfl)) rfl, by decide, by decide, by decide +kernel⟩
theorem v_J2_length_9d52b : Cond.static yJ2_length_9d52b ∈ lw_tb := lw_in (tb_1 _ (List.mem_of_getElem? (i := 208) rfl)) rfl
theorem y_J2_charAt_3b067 : wYc yJ2_charAt_3b067 cJ2_charAt_3b067 2 (some .char) 2 := ⟨lw_in (tb_1 _ (List.mem_of_getElem? (i := 203) rfl)) rfl, lw_in (tb_1 _ (List.mem_of_getElem? (i := 9) rfl)) rfl, by decide, by decide, by decide +kernel⟩
theorem v_J2_charAt_3b067 : Cond.static yJ2_charAt_3b067 ∈ lw_tb := lw_in (tb_1 _ (List.mem_of_getElem? (i := 202) rfl)) rfl
theorem y_J2_checkIndex_2214a : wYc yJ2_checkIndex_2214a cJ2_checkIndex_2214a 2 none 2 := ⟨lw_in (tb_1 _ (List.mem_of_getElem? (i := 206) rfl)) rfl, lw_in (tb_1 _ (List.mem_of_getElem? (i := 9) rfl)) rfl, by decide, by decide, by decide +kernel⟩
theorem v_J2_checkIndex_2214a : Cond.static yJ2_checkIndex_2214a ∈ lw_tb := lw_in (tb_1 _ (List.mem_of_getElem? (i := 205) rfl)) rfl
theorem y_J3_checkIndex_8e157 : wYc yJ3_checkIndex_8e157 cJ3_checkIndex_8e157 3 (some .int) 3 := ⟨lw_in (tb_1 _ (List.mem_of_getElem? (i := 200) rfl)) rfl, lw_in (tb_1 _ (List.mem_of_getElem? (i := 8) rfl)) rfl, by decide, by decide, by decide +kernel⟩
theorem v_J3_checkIndex_8e157 : Cond.static yJ3_checkIndex_8e157 ∈ lw_tb := lw_in (tb_1 _ (List.mem_of_getElem? (i := 199) rfl)) rfl
theorem m_L_17 : Cond.methodLink RL 17 yX8_init ∈ lw_tb := lw_in (tb_1 _ (List.mem_of_getElem? (i := 25) rfl)) rfl
theorem m_X8_31 : Cond.methodLink RX8 31 yX2_init ∈ lw_tb := lw_in (tb_1 _ (List.mem_of_getElem? (i := 161) rfl)) rfl
theorem m_X2_39 : Cond.methodLink RX2 39 yX5_init ∈ lw_tb := lw_in (tb_1 _ (List.mem_of_getElem? (i := 167) rfl)) rfl
theorem m_X5_52 : Cond.methodLink RX5 52 yJ0_length_8abf5 ∈ lw_tb := lw_in (tb_1 _ (List.mem_of_getElem? (i := 172) rfl)) rfl
theorem m_J0_335 : Cond.methodLink RJ0 335 yJ0_coder_7d493 ∈ lw_tb := lw_in (tb_1 _ (List.mem_of_getElem? (i := 176) rfl)) rfl
theorem m_X5_57 : Cond.methodLink RX5 57 yJ0_charAt_5068e ∈ lw_tb := lw_in (tb_1 _ (List.mem_of_getElem? (i := 182) rfl)) rfl
theorem m_J0_492 : Cond.methodLink RJ0 492 yJ0_isLatin1_aae02 ∈ lw_tb := lw_in (tb_1 _ (List.mem_of_getElem? (i := 186) rfl)) rfl
theorem m_J0_495 : Cond.methodLink RJ0 495 yJ1_charAt_3b067 ∈ lw_tb := lw_in (tb_1 _ (List.mem_of_getElem? (i := 190) rfl)) rfl
theorem m_J1_9 : Cond.methodLink RJ1 9 yJ0_checkIndex_df160 ∈ lw_tb := lw_in (tb_1 _ (List.mem_of_getElem? (i := 193) rfl)) rfl
theorem m_J0_1059 : Cond.methodLink RJ0 1059 yJ3_checkIndex_8e157 ∈ lw_tb := lw_in (tb_1 _ (List.mem_of_getElem? (i := 198) rfl)) rfl
theorem m_J0_498 : Cond.methodLink RJ0 498 yJ2_charAt_3b067 ∈ lw_tb := lw_in (tb_1 _ (List.mem_of_getElem? (i := 201) rfl)) rfl
theorem m_J2_67 : Cond.methodLink RJ2 67 yJ2_checkIndex_2214a ∈ lw_tb := lw_in (tb_1 _ (List.mem_of_getElem? (i := 204) rfl)) rfl
theorem m_J2_48 : Cond.methodLink RJ2 48 yJ2_length_9d52b ∈ lw_tb := lw_in (tb_1 _ (List.mem_of_getElem? (i := 207) rfl)) rfl
theorem m_J2_414 : Cond.methodLink RJ2 414 yJ0_checkIndex_df160 ∈ lw_tb := lw_in (tb_1 _ (List.mem_of_getElem? (i := 210) rfl)) rfl
theorem m_J2_71 : Cond.methodLink RJ2 71 yJ2_getChar_3b067 ∈ lw_tb := lw_in (tb_1 _ (List.mem_of_getElem? (i := 211) rfl)) rfl
theorem m_X8_57 : Cond.methodLink RX8 57 yX0_init ∈ lw_tb := lw_in (tb_2 _ (List.mem_of_getElem? (i := 113) rfl)) rfl
theorem m_L_21 : Cond.methodLink RL 21 yX8_feed ∈ lw_tb := lw_in (tb_3 _ (List.mem_of_getElem? (i := 12) rfl)) rfl
theorem m_X8_85 : Cond.methodLink RX8 85 yX8_putOnTape ∈ lw_tb := lw_in (tb_3 _ (List.mem_of_getElem? (i := 16) rfl)) rfl
theorem m_L_26 : Cond.methodLink RL 26 yX8_text ∈ lw_tb := lw_in (tb_3 _ (List.mem_of_getElem? (i := 20) rfl)) rfl
theorem m_X8_89 : Cond.methodLink RX8 89 yX2_read ∈ lw_tb := lw_in (tb_3 _ (List.mem_of_getElem? (i := 24) rfl)) rfl
theorem m_X2_50 : Cond.methodLink RX2 50 yX6_clear ∈ lw_tb := lw_in (tb_3 _ (List.mem_of_getElem? (i := 28) rfl)) rfl
theorem m_X6_68 : Cond.methodLink RX6 68 yX1_clear ∈ lw_tb := lw_in (tb_3 _ (List.mem_of_getElem? (i := 32) rfl)) rfl
theorem m_X2_55 : Cond.methodLink RX2 55 yX5_split ∈ lw_tb := lw_in (tb_3 _ (List.mem_of_getElem? (i := 36) rfl)) rfl
theorem m_X5_61 : Cond.methodLink RX5 61 Lib.Math.min.name ∈ lw_tb := lw_in (tb_3 _ (List.mem_of_getElem? (i := 40) rfl)) rfl
theorem m_X5_67 : Cond.methodLink RX5 67 yX5_find ∈ lw_tb := lw_in (tb_3 _ (List.mem_of_getElem? (i := 43) rfl)) rfl
theorem m_X5_73 : Cond.methodLink RX5 73 yX5_signAt ∈ lw_tb := lw_in (tb_3 _ (List.mem_of_getElem? (i := 47) rfl)) rfl
theorem m_X5_77 : Cond.methodLink RX5 77 yX5_isLetter ∈ lw_tb := lw_in (tb_3 _ (List.mem_of_getElem? (i := 51) rfl)) rfl
theorem m_X5_81 : Cond.methodLink RX5 81 yX5_readWord ∈ lw_tb := lw_in (tb_3 _ (List.mem_of_getElem? (i := 54) rfl)) rfl
theorem m_X5_94 : Cond.methodLink RX5 94 yX5_kindOfWord ∈ lw_tb := lw_in (tb_3 _ (List.mem_of_getElem? (i := 58) rfl)) rfl
theorem m_X5_84 : Cond.methodLink RX5 84 yX5_isDigit ∈ lw_tb := lw_in (tb_3 _ (List.mem_of_getElem? (i := 62) rfl)) rfl
theorem m_X5_87 : Cond.methodLink RX5 87 yX5_readNumber ∈ lw_tb := lw_in (tb_3 _ (List.mem_of_getElem? (i := 65) rfl)) rfl
theorem m_X5_90 : Cond.methodLink RX5 90 yX5_readSign ∈ lw_tb := lw_in (tb_3 _ (List.mem_of_getElem? (i := 70) rfl)) rfl
theorem m_X5_98 : Cond.methodLink RX5 98 yX5_kindOfSign ∈ lw_tb := lw_in (tb_3 _ (List.mem_of_getElem? (i := 74) rfl)) rfl
theorem m_X5_70 : Cond.methodLink RX5 70 yX5_next ∈ lw_tb := lw_in (tb_3 _ (List.mem_of_getElem? (i := 77) rfl)) rfl
theorem m_X2_62 : Cond.methodLink RX2 62 yX2_readLine ∈ lw_tb := lw_in (tb_3 _ (List.mem_of_getElem? (i := 81) rfl)) rfl
theorem m_X2_66 : Cond.methodLink RX2 66 yX2_readGuest ∈ lw_tb := lw_in (tb_3 _ (List.mem_of_getElem? (i := 85) rfl)) rfl
theorem m_X2_81 : Cond.methodLink RX2 81 yX2_blame ∈ lw_tb := lw_in (tb_3 _ (List.mem_of_getElem? (i := 89) rfl)) rfl
theorem m_X2_87 : Cond.methodLink RX2 87 yX5_next ∈ lw_tb := lw_in (tb_3 _ (List.mem_of_getElem? (i := 93) rfl)) rfl
theorem m_X2_99 : Cond.methodLink RX2 99 yX6_guestNamed ∈ lw_tb := lw_in (tb_3 _ (List.mem_of_getElem? (i := 94) rfl)) rfl
theorem m_X2_103 : Cond.methodLink RX2 103 yX2_takeNewName ∈ lw_tb := lw_in (tb_3 _ (List.mem_of_getElem? (i := 98) rfl)) rfl
theorem m_X2_179 : Cond.methodLink RX2 179 yX2_goOnIfGood ∈ lw_tb := lw_in (tb_3 _ (List.mem_of_getElem? (i := 102) rfl)) rfl
theorem m_X2_109 : Cond.methodLink RX2 109 yX2_takeNumber ∈ lw_tb := lw_in (tb_3 _ (List.mem_of_getElem? (i := 106) rfl)) rfl
theorem m_X2_69 : Cond.methodLink RX2 69 yX2_readFruit ∈ lw_tb := lw_in (tb_3 _ (List.mem_of_getElem? (i := 110) rfl)) rfl
theorem m_X2_125 : Cond.methodLink RX2 125 yX6_fruitNamed ∈ lw_tb := lw_in (tb_3 _ (List.mem_of_getElem? (i := 114) rfl)) rfl
theorem m_X2_72 : Cond.methodLink RX2 72 yX2_readBite ∈ lw_tb := lw_in (tb_3 _ (List.mem_of_getElem? (i := 118) rfl)) rfl
theorem m_X2_140 : Cond.methodLink RX2 140 yX2_takeGuest ∈ lw_tb := lw_in (tb_3 _ (List.mem_of_getElem? (i := 122) rfl)) rfl
theorem m_X2_75 : Cond.methodLink RX2 75 yX2_readSetting ∈ lw_tb := lw_in (tb_3 _ (List.mem_of_getElem? (i := 126) rfl)) rfl
theorem m_X2_78 : Cond.methodLink RX2 78 yX2_readLaw ∈ lw_tb := lw_in (tb_3 _ (List.mem_of_getElem? (i := 131) rfl)) rfl
theorem m_X2_161 : Cond.methodLink RX2 161 yX1_has ∈ lw_tb := lw_in (tb_3 _ (List.mem_of_getElem? (i := 135) rfl)) rfl
theorem m_X2_167 : Cond.methodLink RX2 167 yX1_open ∈ lw_tb := lw_in (tb_3 _ (List.mem_of_getElem? (i := 139) rfl)) rfl
theorem m_X2_169 : Cond.methodLink RX2 169 yX2_readTowardsValue ∈ lw_tb := lw_in (tb_3 _ (List.mem_of_getElem? (i := 143) rfl)) rfl
theorem m_X2_182 : Cond.methodLink RX2 182 yX2_countKnot ∈ lw_tb := lw_in (tb_3 _ (List.mem_of_getElem? (i := 147) rfl)) rfl
theorem m_X2_185 : Cond.methodLink RX2 185 yX1_add ∈ lw_tb := lw_in (tb_3 _ (List.mem_of_getElem? (i := 151) rfl)) rfl
theorem m_X2_189 : Cond.methodLink RX2 189 yX2_openOne ∈ lw_tb := lw_in (tb_3 _ (List.mem_of_getElem? (i := 155) rfl)) rfl
theorem m_X2_198 : Cond.methodLink RX2 198 yX2_await ∈ lw_tb := lw_in (tb_3 _ (List.mem_of_getElem? (i := 159) rfl)) rfl
theorem m_X2_192 : Cond.methodLink RX2 192 yX2_lastWaiting ∈ lw_tb := lw_in (tb_3 _ (List.mem_of_getElem? (i := 163) rfl)) rfl
theorem m_X2_195 : Cond.methodLink RX2 195 yX2_bindingOf ∈ lw_tb := lw_in (tb_3 _ (List.mem_of_getElem? (i := 167) rfl)) rfl
theorem m_X2_173 : Cond.methodLink RX2 173 yX2_readBehindValue ∈ lw_tb := lw_in (tb_3 _ (List.mem_of_getElem? (i := 170) rfl)) rfl
theorem m_X2_176 : Cond.methodLink RX2 176 yX2_putDownFrom ∈ lw_tb := lw_in (tb_3 _ (List.mem_of_getElem? (i := 174) rfl)) rfl
theorem m_X8_93 : Cond.methodLink RX8 93 yX3_begin ∈ lw_tb := lw_in (tb_3 _ (List.mem_of_getElem? (i := 178) rfl)) rfl
theorem m_X8_96 : Cond.methodLink RX8 96 yX4_clear ∈ lw_tb := lw_in (tb_3 _ (List.mem_of_getElem? (i := 182) rfl)) rfl
theorem m_L_31 : Cond.methodLink RL 31 yX8_fault ∈ lw_tb := lw_in (tb_3 _ (List.mem_of_getElem? (i := 186) rfl)) rfl
theorem m_L_35 : Cond.methodLink RL 35 yX8_named ∈ lw_tb := lw_in (tb_3 _ (List.mem_of_getElem? (i := 190) rfl)) rfl
theorem m_X8_111 : Cond.methodLink RX8 111 yX6_guestNamed ∈ lw_tb := lw_in (tb_3 _ (List.mem_of_getElem? (i := 194) rfl)) rfl
theorem m_X8_115 : Cond.methodLink RX8 115 yX6_fruitNamed ∈ lw_tb := lw_in (tb_3 _ (List.mem_of_getElem? (i := 195) rfl)) rfl
theorem m_L_49 : Cond.methodLink RL 49 yX8_fruit ∈ lw_tb := lw_in (tb_3 _ (List.mem_of_getElem? (i := 196) rfl)) rfl
theorem m_X8_160 : Cond.methodLink RX8 160 yX8_isFruit ∈ lw_tb := lw_in (tb_3 _ (List.mem_of_getElem? (i := 200) rfl)) rfl
theorem m_X8_169 : Cond.methodLink RX8 169 yX3_isEaten ∈ lw_tb := lw_in (tb_3 _ (List.mem_of_getElem? (i := 204) rfl)) rfl
theorem m_L_53 : Cond.methodLink RL 53 yX8_law ∈ lw_tb := lw_in (tb_3 _ (List.mem_of_getElem? (i := 208) rfl)) rfl
theorem m_X8_118 : Cond.methodLink RX8 118 yX8_isGuest ∈ lw_tb := lw_in (tb_3 _ (List.mem_of_getElem? (i := 212) rfl)) rfl
theorem m_X8_144 : Cond.methodLink RX8 144 yX8_plainCourse ∈ lw_tb := lw_in (tb_3 _ (List.mem_of_getElem? (i := 217) rfl)) rfl
theorem m_X8_211 : Cond.methodLink RX8 211 yX0_begin ∈ lw_tb := lw_in (tb_3 _ (List.mem_of_getElem? (i := 221) rfl)) rfl
theorem m_X8_180 : Cond.methodLink RX8 180 yX0_workOut ∈ lw_tb := lw_in (tb_3 _ (List.mem_of_getElem? (i := 225) rfl)) rfl
theorem m_X0_120 : Cond.methodLink RX0 120 yX1_has ∈ lw_tb := lw_in (tb_3 _ (List.mem_of_getElem? (i := 229) rfl)) rfl
theorem m_X0_137 : Cond.methodLink RX0 137 yX0_sweetOf ∈ lw_tb := lw_in (tb_3 _ (List.mem_of_getElem? (i := 231) rfl)) rfl
theorem m_X0_143 : Cond.methodLink RX0 143 yX0_sitting ∈ lw_tb := lw_in (tb_3 _ (List.mem_of_getElem? (i := 235) rfl)) rfl
theorem m_X0_146 : Cond.methodLink RX0 146 yJ6_bitCount_0f7a4 ∈ lw_tb := lw_in (tb_3 _ (List.mem_of_getElem? (i := 239) rfl)) rfl
theorem m_X0_151 : Cond.methodLink RX0 151 yX1_work ∈ lw_tb := lw_in (tb_4 _ (List.mem_of_getElem? (i := 5) rfl)) rfl
theorem m_X1_38 : Cond.methodLink RX1 38 yX1_join ∈ lw_tb := lw_in (tb_4 _ (List.mem_of_getElem? (i := 10) rfl)) rfl
theorem m_L_58 : Cond.methodLink RL 58 yX8_seat ∈ lw_tb := lw_in (tb_4 _ (List.mem_of_getElem? (i := 15) rfl)) rfl
theorem m_X8_184 : Cond.methodLink RX8 184 yX8_areTwoGuests ∈ lw_tb := lw_in (tb_4 _ (List.mem_of_getElem? (i := 19) rfl)) rfl
theorem m_X8_188 : Cond.methodLink RX8 188 yX3_changeSeats ∈ lw_tb := lw_in (tb_4 _ (List.mem_of_getElem? (i := 23) rfl)) rfl
theorem m_X8_192 : Cond.methodLink RX8 192 yX7_put ∈ lw_tb := lw_in (tb_4 _ (List.mem_of_getElem? (i := 27) rfl)) rfl
theorem m_X7_25 : Cond.methodLink RX7 25 yX7_dropOldest ∈ lw_tb := lw_in (tb_4 _ (List.mem_of_getElem? (i := 31) rfl)) rfl
theorem m_X7_28 : Cond.methodLink RX7 28 arraycopyName ∈ lw_tb := lw_in (tb_4 _ (List.mem_of_getElem? (i := 35) rfl)) rfl
theorem m_L_63 : Cond.methodLink RL 63 yX8_bread ∈ lw_tb := lw_in (tb_4 _ (List.mem_of_getElem? (i := 38) rfl)) rfl
theorem m_X8_196 : Cond.methodLink RX8 196 yX8_isThere ∈ lw_tb := lw_in (tb_4 _ (List.mem_of_getElem? (i := 42) rfl)) rfl
theorem m_X8_141 : Cond.methodLink RX8 141 yX3_hasFainted ∈ lw_tb := lw_in (tb_4 _ (List.mem_of_getElem? (i := 46) rfl)) rfl
theorem m_X8_199 : Cond.methodLink RX8 199 Lib.Math.max.name ∈ lw_tb := lw_in (tb_4 _ (List.mem_of_getElem? (i := 50) rfl)) rfl
theorem m_L_67 : Cond.methodLink RL 67 yX8_wake ∈ lw_tb := lw_in (tb_4 _ (List.mem_of_getElem? (i := 53) rfl)) rfl
theorem m_X8_205 : Cond.methodLink RX8 205 yX3_comeTo ∈ lw_tb := lw_in (tb_4 _ (List.mem_of_getElem? (i := 57) rfl)) rfl
theorem m_L_72 : Cond.methodLink RL 72 yX8_go ∈ lw_tb := lw_in (tb_4 _ (List.mem_of_getElem? (i := 61) rfl)) rfl
theorem m_X8_214 : Cond.methodLink RX8 214 yX0_run ∈ lw_tb := lw_in (tb_4 _ (List.mem_of_getElem? (i := 65) rfl)) rfl
theorem m_X0_45 : Cond.methodLink RX0 45 yX0_goOn ∈ lw_tb := lw_in (tb_4 _ (List.mem_of_getElem? (i := 69) rfl)) rfl
theorem m_X0_49 : Cond.methodLink RX0 49 yX0_guestAtBowl ∈ lw_tb := lw_in (tb_4 _ (List.mem_of_getElem? (i := 73) rfl)) rfl
theorem m_X0_86 : Cond.methodLink RX0 86 yX0_sits ∈ lw_tb := lw_in (tb_4 _ (List.mem_of_getElem? (i := 77) rfl)) rfl
theorem m_X0_52 : Cond.methodLink RX0 52 yX0_fruitOnTop ∈ lw_tb := lw_in (tb_4 _ (List.mem_of_getElem? (i := 81) rfl)) rfl
theorem m_X0_55 : Cond.methodLink RX0 55 yX0_bites ∈ lw_tb := lw_in (tb_4 _ (List.mem_of_getElem? (i := 85) rfl)) rfl
theorem m_X0_158 : Cond.methodLink RX0 158 yX6_tellsBite ∈ lw_tb := lw_in (tb_4 _ (List.mem_of_getElem? (i := 89) rfl)) rfl
theorem m_X0_162 : Cond.methodLink RX0 162 yX0_workOut ∈ lw_tb := lw_in (tb_4 _ (List.mem_of_getElem? (i := 93) rfl)) rfl
theorem m_X0_59 : Cond.methodLink RX0 59 yX0_bite ∈ lw_tb := lw_in (tb_4 _ (List.mem_of_getElem? (i := 94) rfl)) rfl
theorem m_X0_172 : Cond.methodLink RX0 172 yX3_isEaten ∈ lw_tb := lw_in (tb_4 _ (List.mem_of_getElem? (i := 98) rfl)) rfl
theorem m_X0_175 : Cond.methodLink RX0 175 yX3_eat ∈ lw_tb := lw_in (tb_4 _ (List.mem_of_getElem? (i := 99) rfl)) rfl
theorem m_X0_113 : Cond.methodLink RX0 113 yX0_hears ∈ lw_tb := lw_in (tb_4 _ (List.mem_of_getElem? (i := 103) rfl)) rfl
theorem m_X0_106 : Cond.methodLink RX0 106 yX0_seatsBetween ∈ lw_tb := lw_in (tb_4 _ (List.mem_of_getElem? (i := 107) rfl)) rfl
theorem m_X0_96 : Cond.methodLink RX0 96 Lib.Math.abs.name ∈ lw_tb := lw_in (tb_4 _ (List.mem_of_getElem? (i := 111) rfl)) rfl
theorem m_X0_102 : Cond.methodLink RX0 102 Lib.Math.min.name ∈ lw_tb := lw_in (tb_4 _ (List.mem_of_getElem? (i := 114) rfl)) rfl
theorem m_X0_179 : Cond.methodLink RX0 179 yX0_shockOf ∈ lw_tb := lw_in (tb_4 _ (List.mem_of_getElem? (i := 115) rfl)) rfl
theorem m_X0_185 : Cond.methodLink RX0 185 yX0_within99 ∈ lw_tb := lw_in (tb_4 _ (List.mem_of_getElem? (i := 119) rfl)) rfl
theorem m_X0_191 : Cond.methodLink RX0 191 Lib.MathLoose.min_long.x ∈ lw_tb := lw_in (tb_4 _ (List.mem_of_getElem? (i := 123) rfl)) rfl
theorem m_X0_194 : Cond.methodLink RX0 194 Lib.MathLoose.max_long.x ∈ lw_tb := lw_in (tb_4 _ (List.mem_of_getElem? (i := 126) rfl)) rfl
theorem m_X0_182 : Cond.methodLink RX0 182 Lib.Math.max.name ∈ lw_tb := lw_in (tb_4 _ (List.mem_of_getElem? (i := 129) rfl)) rfl
theorem m_X0_63 : Cond.methodLink RX0 63 yX0_praise ∈ lw_tb := lw_in (tb_4 _ (List.mem_of_getElem? (i := 130) rfl)) rfl
theorem m_X0_196 : Cond.methodLink RX0 196 yX0_praiseOf ∈ lw_tb := lw_in (tb_4 _ (List.mem_of_getElem? (i := 134) rfl)) rfl
theorem m_X0_66 : Cond.methodLink RX0 66 yX0_growHungry ∈ lw_tb := lw_in (tb_4 _ (List.mem_of_getElem? (i := 138) rfl)) rfl
theorem m_X0_202 : Cond.methodLink RX0 202 yX0_feelsDraught ∈ lw_tb := lw_in (tb_4 _ (List.mem_of_getElem? (i := 142) rfl)) rfl
theorem m_X0_209 : Cond.methodLink RX0 209 yX3_nextNumber ∈ lw_tb := lw_in (tb_4 _ (List.mem_of_getElem? (i := 146) rfl)) rfl
theorem m_X0_70 : Cond.methodLink RX0 70 yX0_fall ∈ lw_tb := lw_in (tb_4 _ (List.mem_of_getElem? (i := 154) rfl)) rfl
theorem m_X0_213 : Cond.methodLink RX0 213 yX3_faint ∈ lw_tb := lw_in (tb_4 _ (List.mem_of_getElem? (i := 158) rfl)) rfl
theorem m_L_76 : Cond.methodLink RL 76 yX8_ahead ∈ lw_tb := lw_in (tb_4 _ (List.mem_of_getElem? (i := 162) rfl)) rfl
theorem m_X8_218 : Cond.methodLink RX8 218 yX8_startTrial ∈ lw_tb := lw_in (tb_4 _ (List.mem_of_getElem? (i := 166) rfl)) rfl
theorem m_X8_345 : Cond.methodLink RX8 345 yX3_take ∈ lw_tb := lw_in (tb_4 _ (List.mem_of_getElem? (i := 170) rfl)) rfl
theorem m_X3_50 : Cond.methodLink RX3 50 arraycopyName ∈ lw_tb := lw_in (tb_4 _ (List.mem_of_getElem? (i := 174) rfl)) rfl
theorem m_X8_221 : Cond.methodLink RX8 221 yX8_bitesIn ∈ lw_tb := lw_in (tb_4 _ (List.mem_of_getElem? (i := 175) rfl)) rfl
theorem m_X8_225 : Cond.methodLink RX8 225 yX8_fallenInTrial ∈ lw_tb := lw_in (tb_4 _ (List.mem_of_getElem? (i := 179) rfl)) rfl
theorem m_X8_269 : Cond.methodLink RX8 269 yJ6_bitCount_0f7a4 ∈ lw_tb := lw_in (tb_4 _ (List.mem_of_getElem? (i := 183) rfl)) rfl
theorem m_X8_229 : Cond.methodLink RX8 229 yX8_fedIn ∈ lw_tb := lw_in (tb_4 _ (List.mem_of_getElem? (i := 184) rfl)) rfl
theorem m_L_81 : Cond.methodLink RL 81 yX8_swoon ∈ lw_tb := lw_in (tb_4 _ (List.mem_of_getElem? (i := 188) rfl)) rfl
theorem m_X8_232 : Cond.methodLink RX8 232 yX0_goOn ∈ lw_tb := lw_in (tb_4 _ (List.mem_of_getElem? (i := 192) rfl)) rfl
theorem m_L_85 : Cond.methodLink RL 85 yX8_nextBite ∈ lw_tb := lw_in (tb_4 _ (List.mem_of_getElem? (i := 193) rfl)) rfl
theorem m_L_89 : Cond.methodLink RL 89 yX8_table ∈ lw_tb := lw_in (tb_4 _ (List.mem_of_getElem? (i := 197) rfl)) rfl
theorem m_X8_238 : Cond.methodLink RX8 238 yX8_firstSeating ∈ lw_tb := lw_in (tb_4 _ (List.mem_of_getElem? (i := 201) rfl)) rfl
theorem m_X8_241 : Cond.methodLink RX8 241 yX8_fallenBySeating ∈ lw_tb := lw_in (tb_4 _ (List.mem_of_getElem? (i := 205) rfl)) rfl
theorem m_X8_244 : Cond.methodLink RX8 244 arraycopyName ∈ lw_tb := lw_in (tb_4 _ (List.mem_of_getElem? (i := 209) rfl)) rfl
theorem m_X8_250 : Cond.methodLink RX8 250 yX8_nextSeating ∈ lw_tb := lw_in (tb_4 _ (List.mem_of_getElem? (i := 210) rfl)) rfl
theorem m_X8_254 : Cond.methodLink RX8 254 yX8_exchange ∈ lw_tb := lw_in (tb_4 _ (List.mem_of_getElem? (i := 214) rfl)) rfl
theorem m_L_93 : Cond.methodLink RL 93 yX8_hold ∈ lw_tb := lw_in (tb_4 _ (List.mem_of_getElem? (i := 218) rfl)) rfl
theorem m_X8_257 : Cond.methodLink RX8 257 yX0_sitting ∈ lw_tb := lw_in (tb_4 _ (List.mem_of_getElem? (i := 222) rfl)) rfl
theorem m_L_97 : Cond.methodLink RL 97 yX8_calm ∈ lw_tb := lw_in (tb_4 _ (List.mem_of_getElem? (i := 223) rfl)) rfl
theorem m_X8_260 : Cond.methodLink RX8 260 yX8_isFewer ∈ lw_tb := lw_in (tb_4 _ (List.mem_of_getElem? (i := 227) rfl)) rfl
theorem m_X8_263 : Cond.methodLink RX8 263 yX8_isCalmWithout ∈ lw_tb := lw_in (tb_4 _ (List.mem_of_getElem? (i := 230) rfl)) rfl
theorem m_L_101 : Cond.methodLink RL 101 yX8_bestFed ∈ lw_tb := lw_in (tb_4 _ (List.mem_of_getElem? (i := 234) rfl)) rfl
theorem m_X8_274 : Cond.methodLink RX8 274 yX0_fruitOnTop ∈ lw_tb := lw_in (tb_4 _ (List.mem_of_getElem? (i := 238) rfl)) rfl
theorem m_X8_277 : Cond.methodLink RX8 277 yX0_wouldFeed ∈ lw_tb := lw_in (tb_4 _ (List.mem_of_getElem? (i := 239) rfl)) rfl
theorem m_L_105 : Cond.methodLink RL 105 yX8_rests ∈ lw_tb := lw_in (tb_5 _ (List.mem_of_getElem? (i := 3) rfl)) rfl
theorem m_X8_281 : Cond.methodLink RX8 281 yX8_isRest ∈ lw_tb := lw_in (tb_5 _ (List.mem_of_getElem? (i := 7) rfl)) rfl
theorem m_X8_285 : Cond.methodLink RX8 285 yX8_duelWorth ∈ lw_tb := lw_in (tb_5 _ (List.mem_of_getElem? (i := 11) rfl)) rfl
theorem m_L_109 : Cond.methodLink RL 109 yX8_rest ∈ lw_tb := lw_in (tb_5 _ (List.mem_of_getElem? (i := 15) rfl)) rfl
theorem m_L_113 : Cond.methodLink RL 113 yX8_warm ∈ lw_tb := lw_in (tb_5 _ (List.mem_of_getElem? (i := 19) rfl)) rfl
theorem m_X8_294 : Cond.methodLink RX8 294 yX8_commonDivisor ∈ lw_tb := lw_in (tb_5 _ (List.mem_of_getElem? (i := 24) rfl)) rfl
theorem m_X8_297 : Cond.methodLink RX8 297 Lib.Math.min.name ∈ lw_tb := lw_in (tb_5 _ (List.mem_of_getElem? (i := 27) rfl)) rfl
theorem m_L_118 : Cond.methodLink RL 118 yX8_bowl ∈ lw_tb := lw_in (tb_5 _ (List.mem_of_getElem? (i := 28) rfl)) rfl
theorem m_X8_300 : Cond.methodLink RX8 300 yX0_guestAtBowl ∈ lw_tb := lw_in (tb_5 _ (List.mem_of_getElem? (i := 32) rfl)) rfl
theorem m_L_122 : Cond.methodLink RL 122 yX8_uppermost ∈ lw_tb := lw_in (tb_5 _ (List.mem_of_getElem? (i := 33) rfl)) rfl
theorem m_L_126 : Cond.methodLink RL 126 yX8_hungriest ∈ lw_tb := lw_in (tb_5 _ (List.mem_of_getElem? (i := 37) rfl)) rfl
theorem m_L_130 : Cond.methodLink RL 130 yX8_marked ∈ lw_tb := lw_in (tb_5 _ (List.mem_of_getElem? (i := 41) rfl)) rfl
theorem m_L_134 : Cond.methodLink RL 134 yX8_apart ∈ lw_tb := lw_in (tb_5 _ (List.mem_of_getElem? (i := 45) rfl)) rfl
theorem m_X8_306 : Cond.methodLink RX8 306 yX0_seatsBetween ∈ lw_tb := lw_in (tb_5 _ (List.mem_of_getElem? (i := 49) rfl)) rfl
theorem m_L_138 : Cond.methodLink RL 138 yX8_eatenIn ∈ lw_tb := lw_in (tb_5 _ (List.mem_of_getElem? (i := 50) rfl)) rfl
theorem m_L_142 : Cond.methodLink RL 142 yX8_loaf ∈ lw_tb := lw_in (tb_5 _ (List.mem_of_getElem? (i := 54) rfl)) rfl
theorem m_X8_309 : Cond.methodLink RX8 309 yX8_staysBy ∈ lw_tb := lw_in (tb_5 _ (List.mem_of_getElem? (i := 58) rfl)) rfl
theorem m_L_146 : Cond.methodLink RL 146 yX8_chain ∈ lw_tb := lw_in (tb_5 _ (List.mem_of_getElem? (i := 62) rfl)) rfl
theorem m_X8_312 : Cond.methodLink RX8 312 yX8_passedOn ∈ lw_tb := lw_in (tb_5 _ (List.mem_of_getElem? (i := 66) rfl)) rfl
theorem m_X8_316 : Cond.methodLink RX8 316 yX8_withHearers ∈ lw_tb := lw_in (tb_5 _ (List.mem_of_getElem? (i := 70) rfl)) rfl
theorem m_X8_148 : Cond.methodLink RX8 148 yX0_hearers ∈ lw_tb := lw_in (tb_5 _ (List.mem_of_getElem? (i := 74) rfl)) rfl
theorem m_L_150 : Cond.methodLink RL 150 yX8_part ∈ lw_tb := lw_in (tb_5 _ (List.mem_of_getElem? (i := 78) rfl)) rfl
theorem m_L_154 : Cond.methodLink RL 154 yX8_rudest ∈ lw_tb := lw_in (tb_5 _ (List.mem_of_getElem? (i := 82) rfl)) rfl
theorem m_L_158 : Cond.methodLink RL 158 yX8_grace ∈ lw_tb := lw_in (tb_5 _ (List.mem_of_getElem? (i := 86) rfl)) rfl
theorem m_L_162 : Cond.methodLink RL 162 yX8_untouched ∈ lw_tb := lw_in (tb_5 _ (List.mem_of_getElem? (i := 90) rfl)) rfl
theorem m_L_166 : Cond.methodLink RL 166 yX8_see ∈ lw_tb := lw_in (tb_5 _ (List.mem_of_getElem? (i := 94) rfl)) rfl
theorem m_X8_319 : Cond.methodLink RX8 319 yX4_put ∈ lw_tb := lw_in (tb_5 _ (List.mem_of_getElem? (i := 98) rfl)) rfl
theorem m_L_171 : Cond.methodLink RL 171 yX8_strike ∈ lw_tb := lw_in (tb_5 _ (List.mem_of_getElem? (i := 102) rfl)) rfl
theorem m_L_175 : Cond.methodLink RL 175 yX8_known ∈ lw_tb := lw_in (tb_5 _ (List.mem_of_getElem? (i := 106) rfl)) rfl
theorem m_L_179 : Cond.methodLink RL 179 yX8_sweets ∈ lw_tb := lw_in (tb_5 _ (List.mem_of_getElem? (i := 110) rfl)) rfl
theorem m_X8_326 : Cond.methodLink RX8 326 yX4_sift ∈ lw_tb := lw_in (tb_5 _ (List.mem_of_getElem? (i := 114) rfl)) rfl
theorem m_X4_38 : Cond.methodLink RX4 38 yX4_knownSize ∈ lw_tb := lw_in (tb_5 _ (List.mem_of_getElem? (i := 118) rfl)) rfl
theorem m_X8_329 : Cond.methodLink RX8 329 yX8_agrees ∈ lw_tb := lw_in (tb_5 _ (List.mem_of_getElem? (i := 122) rfl)) rfl
theorem m_X8_338 : Cond.methodLink RX8 338 yX4_lastStep ∈ lw_tb := lw_in (tb_5 _ (List.mem_of_getElem? (i := 126) rfl)) rfl
theorem m_X4_42 : Cond.methodLink RX4 42 yX4_counts ∈ lw_tb := lw_in (tb_5 _ (List.mem_of_getElem? (i := 130) rfl)) rfl
theorem m_X4_46 : Cond.methodLink RX4 46 Lib.Math.max.name ∈ lw_tb := lw_in (tb_5 _ (List.mem_of_getElem? (i := 134) rfl)) rfl
theorem m_X8_341 : Cond.methodLink RX8 341 yX4_fits ∈ lw_tb := lw_in (tb_5 _ (List.mem_of_getElem? (i := 135) rfl)) rfl
theorem m_L_183 : Cond.methodLink RL 183 yX8_chance ∈ lw_tb := lw_in (tb_5 _ (List.mem_of_getElem? (i := 139) rfl)) rfl
theorem m_L_187 : Cond.methodLink RL 187 yX8_tried ∈ lw_tb := lw_in (tb_5 _ (List.mem_of_getElem? (i := 143) rfl)) rfl
theorem m_L_191 : Cond.methodLink RL 191 yX8_undo ∈ lw_tb := lw_in (tb_5 _ (List.mem_of_getElem? (i := 147) rfl)) rfl
theorem m_X8_367 : Cond.methodLink RX8 367 yX7_takeBack ∈ lw_tb := lw_in (tb_5 _ (List.mem_of_getElem? (i := 151) rfl)) rfl
theorem m_X7_34 : Cond.methodLink RX7 34 yX3_changeSeats ∈ lw_tb := lw_in (tb_5 _ (List.mem_of_getElem? (i := 155) rfl)) rfl
theorem m_X7_43 : Cond.methodLink RX7 43 yX3_faint ∈ lw_tb := lw_in (tb_5 _ (List.mem_of_getElem? (i := 156) rfl)) rfl
theorem m_L_195 : Cond.methodLink RL 195 yX8_keep ∈ lw_tb := lw_in (tb_5 _ (List.mem_of_getElem? (i := 157) rfl)) rfl
theorem m_L_199 : Cond.methodLink RL 199 yX8_back ∈ lw_tb := lw_in (tb_5 _ (List.mem_of_getElem? (i := 161) rfl)) rfl
theorem m_L_203 : Cond.methodLink RL 203 yX8_count ∈ lw_tb := lw_in (tb_5 _ (List.mem_of_getElem? (i := 165) rfl)) rfl
theorem m_X8_385 : Cond.methodLink RX8 385 yX8_hungerNow ∈ lw_tb := lw_in (tb_5 _ (List.mem_of_getElem? (i := 169) rfl)) rfl
theorem m_X8_388 : Cond.methodLink RX8 388 yX4_knownSize ∈ lw_tb := lw_in (tb_5 _ (List.mem_of_getElem? (i := 173) rfl)) rfl
theorem m_L_39 : Cond.methodLink RL 39 yL_guest ∈ lw_tb := lw_in (tb_5 _ (List.mem_of_getElem? (i := 174) rfl)) rfl
theorem m_L_7 : Cond.methodLink RL 7 yX8_guest ∈ lw_tb := lw_in (tb_5 _ (List.mem_of_getElem? (i := 179) rfl)) rfl
theorem m_L_20 : Cond.methodLink RL 20 yX9_init ∈ lw_tb := lw_in (tb_6 _ (List.mem_of_getElem? (i := 27) rfl)) rfl
theorem m_X9_136 : Cond.methodLink RX9 136 yX9_plain ∈ lw_tb := lw_in (tb_6 _ (List.mem_of_getElem? (i := 31) rfl)) rfl
theorem m_X9_139 : Cond.methodLink RX9 139 yX9_keepText ∈ lw_tb := lw_in (tb_6 _ (List.mem_of_getElem? (i := 35) rfl)) rfl
theorem m_X9_231 : Cond.methodLink RX9 231 yX9_copies ∈ lw_tb := lw_in (tb_6 _ (List.mem_of_getElem? (i := 39) rfl)) rfl
theorem m_X9_235 : Cond.methodLink RX9 235 yX9_begin ∈ lw_tb := lw_in (tb_6 _ (List.mem_of_getElem? (i := 42) rfl)) rfl
theorem m_X9_334 : Cond.methodLink RX9 334 yX9_atFirst ∈ lw_tb := lw_in (tb_6 _ (List.mem_of_getElem? (i := 46) rfl)) rfl
theorem m_X9_341 : Cond.methodLink RX9 341 yX9_plainTried ∈ lw_tb := lw_in (tb_6 _ (List.mem_of_getElem? (i := 50) rfl)) rfl
theorem m_L_45 : Cond.methodLink RL 45 yX9_thrown ∈ lw_tb := lw_in (tb_7 _ (List.mem_of_getElem? (i := 55) rfl)) rfl
theorem m_L_25 : Cond.methodLink RL 25 yX9_feed ∈ lw_tb := lw_in (tb_7 _ (List.mem_of_getElem? (i := 59) rfl)) rfl
theorem m_L_30 : Cond.methodLink RL 30 yX9_text ∈ lw_tb := lw_in (tb_7 _ (List.mem_of_getElem? (i := 63) rfl)) rfl
theorem m_X9_194 : Cond.methodLink RX9 194 yX9_token ∈ lw_tb := lw_in (tb_7 _ (List.mem_of_getElem? (i := 67) rfl)) rfl
theorem m_X9_163 : Cond.methodLink RX9 163 yX9_isSmall ∈ lw_tb := lw_in (tb_7 _ (List.mem_of_getElem? (i := 71) rfl)) rfl
theorem m_X9_167 : Cond.methodLink RX9 167 yX9_wordAt ∈ lw_tb := lw_in (tb_7 _ (List.mem_of_getElem? (i := 75) rfl)) rfl
theorem m_X9_174 : Cond.methodLink RX9 174 yX9_packed ∈ lw_tb := lw_in (tb_7 _ (List.mem_of_getElem? (i := 79) rfl)) rfl
theorem m_X9_177 : Cond.methodLink RX9 177 yX9_isDigit ∈ lw_tb := lw_in (tb_7 _ (List.mem_of_getElem? (i := 83) rfl)) rfl
theorem m_X9_181 : Cond.methodLink RX9 181 yX9_signToken ∈ lw_tb := lw_in (tb_7 _ (List.mem_of_getElem? (i := 88) rfl)) rfl
theorem m_X9_262 : Cond.methodLink RX9 262 yX9_lineRead ∈ lw_tb := lw_in (tb_7 _ (List.mem_of_getElem? (i := 92) rfl)) rfl
theorem m_X9_184 : Cond.methodLink RX9 184 yX9_wrong ∈ lw_tb := lw_in (tb_7 _ (List.mem_of_getElem? (i := 96) rfl)) rfl
theorem m_X9_246 : Cond.methodLink RX9 246 yX9_guestLine ∈ lw_tb := lw_in (tb_7 _ (List.mem_of_getElem? (i := 100) rfl)) rfl
theorem m_X9_242 : Cond.methodLink RX9 242 yX9_newName ∈ lw_tb := lw_in (tb_7 _ (List.mem_of_getElem? (i := 104) rfl)) rfl
theorem m_X9_238 : Cond.methodLink RX9 238 yX9_find ∈ lw_tb := lw_in (tb_7 _ (List.mem_of_getElem? (i := 108) rfl)) rfl
theorem m_X9_200 : Cond.methodLink RX9 200 yX9_number ∈ lw_tb := lw_in (tb_7 _ (List.mem_of_getElem? (i := 111) rfl)) rfl
theorem m_X9_187 : Cond.methodLink RX9 187 yX9_isIn ∈ lw_tb := lw_in (tb_7 _ (List.mem_of_getElem? (i := 115) rfl)) rfl
theorem m_X9_250 : Cond.methodLink RX9 250 yX9_fruitLine ∈ lw_tb := lw_in (tb_7 _ (List.mem_of_getElem? (i := 118) rfl)) rfl
theorem m_X9_253 : Cond.methodLink RX9 253 yX9_biteLine ∈ lw_tb := lw_in (tb_7 _ (List.mem_of_getElem? (i := 122) rfl)) rfl
theorem m_X9_256 : Cond.methodLink RX9 256 yX9_onceLine ∈ lw_tb := lw_in (tb_7 _ (List.mem_of_getElem? (i := 126) rfl)) rfl
theorem m_X9_259 : Cond.methodLink RX9 259 yX9_sumRead ∈ lw_tb := lw_in (tb_7 _ (List.mem_of_getElem? (i := 130) rfl)) rfl
theorem m_X9_197 : Cond.methodLink RX9 197 yX9_isSign ∈ lw_tb := lw_in (tb_7 _ (List.mem_of_getElem? (i := 134) rfl)) rfl
theorem m_X9_309 : Cond.methodLink RX9 309 yX9_leafRead ∈ lw_tb := lw_in (tb_7 _ (List.mem_of_getElem? (i := 138) rfl)) rfl
theorem m_X9_286 : Cond.methodLink RX9 286 yX9_waitsFor ∈ lw_tb := lw_in (tb_7 _ (List.mem_of_getElem? (i := 142) rfl)) rfl
theorem m_X9_294 : Cond.methodLink RX9 294 yX9_isKey ∈ lw_tb := lw_in (tb_7 _ (List.mem_of_getElem? (i := 146) rfl)) rfl
theorem m_X9_297 : Cond.methodLink RX9 297 yX9_isCounted ∈ lw_tb := lw_in (tb_7 _ (List.mem_of_getElem? (i := 150) rfl)) rfl
theorem m_X9_300 : Cond.methodLink RX9 300 yX9_nameMet ∈ lw_tb := lw_in (tb_7 _ (List.mem_of_getElem? (i := 154) rfl)) rfl
theorem m_X9_279 : Cond.methodLink RX9 279 yX9_grown ∈ lw_tb := lw_in (tb_7 _ (List.mem_of_getElem? (i := 158) rfl)) rfl
theorem m_X9_312 : Cond.methodLink RX9 312 yX9_signs ∈ lw_tb := lw_in (tb_7 _ (List.mem_of_getElem? (i := 162) rfl)) rfl
theorem m_X9_306 : Cond.methodLink RX9 306 yX9_bind ∈ lw_tb := lw_in (tb_7 _ (List.mem_of_getElem? (i := 166) rfl)) rfl
theorem m_X9_271 : Cond.methodLink RX9 271 yX9_rank ∈ lw_tb := lw_in (tb_7 _ (List.mem_of_getElem? (i := 170) rfl)) rfl
theorem m_X9_275 : Cond.methodLink RX9 275 yX9_dropHeld ∈ lw_tb := lw_in (tb_7 _ (List.mem_of_getElem? (i := 173) rfl)) rfl
theorem m_L_34 : Cond.methodLink RL 34 yX9_fault ∈ lw_tb := lw_in (tb_7 _ (List.mem_of_getElem? (i := 177) rfl)) rfl
theorem m_L_38 : Cond.methodLink RL 38 yX9_named ∈ lw_tb := lw_in (tb_7 _ (List.mem_of_getElem? (i := 181) rfl)) rfl
theorem m_L_44 : Cond.methodLink RL 44 yX9_guest ∈ lw_tb := lw_in (tb_7 _ (List.mem_of_getElem? (i := 185) rfl)) rfl
theorem m_X9_380 : Cond.methodLink RX9 380 yX9_isGuest ∈ lw_tb := lw_in (tb_7 _ (List.mem_of_getElem? (i := 189) rfl)) rfl
theorem m_X9_458 : Cond.methodLink RX9 458 yX9_fails ∈ lw_tb := lw_in (tb_7 _ (List.mem_of_getElem? (i := 193) rfl)) rfl
theorem m_X9_461 : Cond.methodLink RX9 461 yX9_hearing ∈ lw_tb := lw_in (tb_7 _ (List.mem_of_getElem? (i := 197) rfl)) rfl
theorem m_X9_431 : Cond.methodLink RX9 431 yX9_hears ∈ lw_tb := lw_in (tb_7 _ (List.mem_of_getElem? (i := 201) rfl)) rfl
theorem m_X9_386 : Cond.methodLink RX9 386 yX9_isOn ∈ lw_tb := lw_in (tb_7 _ (List.mem_of_getElem? (i := 205) rfl)) rfl
theorem m_X9_383 : Cond.methodLink RX9 383 yX9_isOf ∈ lw_tb := lw_in (tb_7 _ (List.mem_of_getElem? (i := 209) rfl)) rfl
theorem m_X9_410 : Cond.methodLink RX9 410 yX9_far ∈ lw_tb := lw_in (tb_7 _ (List.mem_of_getElem? (i := 212) rfl)) rfl
theorem m_L_52 : Cond.methodLink RL 52 yX9_fruit ∈ lw_tb := lw_in (tb_7 _ (List.mem_of_getElem? (i := 216) rfl)) rfl
theorem m_X9_464 : Cond.methodLink RX9 464 yX9_isFruit ∈ lw_tb := lw_in (tb_7 _ (List.mem_of_getElem? (i := 220) rfl)) rfl
theorem m_L_57 : Cond.methodLink RL 57 yX9_law ∈ lw_tb := lw_in (tb_7 _ (List.mem_of_getElem? (i := 224) rfl)) rfl
theorem m_X9_404 : Cond.methodLink RX9 404 yX9_layNames ∈ lw_tb := lw_in (tb_7 _ (List.mem_of_getElem? (i := 229) rfl)) rfl
theorem m_X9_389 : Cond.methodLink RX9 389 yX9_sweetIn ∈ lw_tb := lw_in (tb_7 _ (List.mem_of_getElem? (i := 233) rfl)) rfl
theorem m_X9_392 : Cond.methodLink RX9 392 yX9_thereMany ∈ lw_tb := lw_in (tb_7 _ (List.mem_of_getElem? (i := 237) rfl)) rfl
theorem m_X9_399 : Cond.methodLink RX9 399 yX9_lawOf ∈ lw_tb := lw_in (tb_8 _ (List.mem_of_getElem? (i := 1) rfl)) rfl
theorem m_X9_395 : Cond.methodLink RX9 395 yX9_valueOf ∈ lw_tb := lw_in (tb_8 _ (List.mem_of_getElem? (i := 5) rfl)) rfl
theorem m_X9_322 : Cond.methodLink RX9 322 yX9_bounded ∈ lw_tb := lw_in (tb_8 _ (List.mem_of_getElem? (i := 9) rfl)) rfl
theorem m_X9_326 : Cond.methodLink RX9 326 yX9_times ∈ lw_tb := lw_in (tb_8 _ (List.mem_of_getElem? (i := 15) rfl)) rfl
theorem m_X9_330 : Cond.methodLink RX9 330 yX9_compares ∈ lw_tb := lw_in (tb_8 _ (List.mem_of_getElem? (i := 19) rfl)) rfl
theorem m_L_62 : Cond.methodLink RL 62 yX9_seat ∈ lw_tb := lw_in (tb_8 _ (List.mem_of_getElem? (i := 22) rfl)) rfl
theorem m_X9_469 : Cond.methodLink RX9 469 yX9_areTwo ∈ lw_tb := lw_in (tb_8 _ (List.mem_of_getElem? (i := 26) rfl)) rfl
theorem m_X9_472 : Cond.methodLink RX9 472 yX9_remember ∈ lw_tb := lw_in (tb_8 _ (List.mem_of_getElem? (i := 30) rfl)) rfl
theorem m_X9_537 : Cond.methodLink RX9 537 yX9_put ∈ lw_tb := lw_in (tb_8 _ (List.mem_of_getElem? (i := 34) rfl)) rfl
theorem m_L_66 : Cond.methodLink RL 66 yX9_bread ∈ lw_tb := lw_in (tb_8 _ (List.mem_of_getElem? (i := 38) rfl)) rfl
theorem m_L_71 : Cond.methodLink RL 71 yX9_wake ∈ lw_tb := lw_in (tb_8 _ (List.mem_of_getElem? (i := 42) rfl)) rfl
theorem m_L_75 : Cond.methodLink RL 75 yX9_go ∈ lw_tb := lw_in (tb_8 _ (List.mem_of_getElem? (i := 46) rfl)) rfl
theorem m_X9_455 : Cond.methodLink RX9 455 yX9_stepGoes ∈ lw_tb := lw_in (tb_8 _ (List.mem_of_getElem? (i := 50) rfl)) rfl
theorem m_X9_437 : Cond.methodLink RX9 437 yX9_sitsAt ∈ lw_tb := lw_in (tb_8 _ (List.mem_of_getElem? (i := 54) rfl)) rfl
theorem m_X9_440 : Cond.methodLink RX9 440 yX9_isTold ∈ lw_tb := lw_in (tb_8 _ (List.mem_of_getElem? (i := 58) rfl)) rfl
theorem m_X9_443 : Cond.methodLink RX9 443 yX9_isDaring ∈ lw_tb := lw_in (tb_8 _ (List.mem_of_getElem? (i := 62) rfl)) rfl
theorem m_X9_446 : Cond.methodLink RX9 446 yX9_bites ∈ lw_tb := lw_in (tb_8 _ (List.mem_of_getElem? (i := 66) rfl)) rfl
theorem m_X9_428 : Cond.methodLink RX9 428 yX9_isReal ∈ lw_tb := lw_in (tb_8 _ (List.mem_of_getElem? (i := 70) rfl)) rfl
theorem m_X9_407 : Cond.methodLink RX9 407 yX9_boundLaw ∈ lw_tb := lw_in (tb_8 _ (List.mem_of_getElem? (i := 74) rfl)) rfl
theorem m_X9_449 : Cond.methodLink RX9 449 yX9_praises ∈ lw_tb := lw_in (tb_8 _ (List.mem_of_getElem? (i := 79) rfl)) rfl
theorem m_X9_434 : Cond.methodLink RX9 434 yX9_praiseOf ∈ lw_tb := lw_in (tb_8 _ (List.mem_of_getElem? (i := 83) rfl)) rfl
theorem m_X9_452 : Cond.methodLink RX9 452 yX9_isDraught ∈ lw_tb := lw_in (tb_8 _ (List.mem_of_getElem? (i := 87) rfl)) rfl
theorem m_X9_422 : Cond.methodLink RX9 422 yX9_number1 ∈ lw_tb := lw_in (tb_8 _ (List.mem_of_getElem? (i := 91) rfl)) rfl
theorem m_L_80 : Cond.methodLink RL 80 yX9_ahead ∈ lw_tb := lw_in (tb_8 _ (List.mem_of_getElem? (i := 99) rfl)) rfl
theorem m_X9_475 : Cond.methodLink RX9 475 yX9_layTried ∈ lw_tb := lw_in (tb_8 _ (List.mem_of_getElem? (i := 103) rfl)) rfl
theorem m_X9_478 : Cond.methodLink RX9 478 yX9_goMany ∈ lw_tb := lw_in (tb_8 _ (List.mem_of_getElem? (i := 107) rfl)) rfl
theorem m_X9_481 : Cond.methodLink RX9 481 yX9_bitesAll ∈ lw_tb := lw_in (tb_8 _ (List.mem_of_getElem? (i := 111) rfl)) rfl
theorem m_X9_484 : Cond.methodLink RX9 484 yX9_fainted ∈ lw_tb := lw_in (tb_8 _ (List.mem_of_getElem? (i := 115) rfl)) rfl
theorem m_X9_487 : Cond.methodLink RX9 487 yX9_fedAll ∈ lw_tb := lw_in (tb_8 _ (List.mem_of_getElem? (i := 119) rfl)) rfl
theorem m_L_84 : Cond.methodLink RL 84 yX9_swoon ∈ lw_tb := lw_in (tb_8 _ (List.mem_of_getElem? (i := 123) rfl)) rfl
theorem m_L_88 : Cond.methodLink RL 88 yX9_nextBite ∈ lw_tb := lw_in (tb_8 _ (List.mem_of_getElem? (i := 127) rfl)) rfl
theorem m_L_141 : Cond.methodLink RL 141 yX9_eatenIn ∈ lw_tb := lw_in (tb_8 _ (List.mem_of_getElem? (i := 131) rfl)) rfl
theorem m_L_96 : Cond.methodLink RL 96 yX9_hold ∈ lw_tb := lw_in (tb_8 _ (List.mem_of_getElem? (i := 135) rfl)) rfl
theorem m_L_92 : Cond.methodLink RL 92 yX9_table ∈ lw_tb := lw_in (tb_8 _ (List.mem_of_getElem? (i := 139) rfl)) rfl
theorem m_X9_490 : Cond.methodLink RX9 490 yX9_rowsOf ∈ lw_tb := lw_in (tb_8 _ (List.mem_of_getElem? (i := 143) rfl)) rfl
theorem m_X9_493 : Cond.methodLink RX9 493 yX9_layRow ∈ lw_tb := lw_in (tb_8 _ (List.mem_of_getElem? (i := 146) rfl)) rfl
theorem m_L_100 : Cond.methodLink RL 100 yX9_calm ∈ lw_tb := lw_in (tb_8 _ (List.mem_of_getElem? (i := 150) rfl)) rfl
theorem m_X9_496 : Cond.methodLink RX9 496 yX9_thereBits ∈ lw_tb := lw_in (tb_8 _ (List.mem_of_getElem? (i := 154) rfl)) rfl
theorem m_X9_499 : Cond.methodLink RX9 499 yX9_manyOf ∈ lw_tb := lw_in (tb_8 _ (List.mem_of_getElem? (i := 158) rfl)) rfl
theorem m_X9_502 : Cond.methodLink RX9 502 yX9_isCalm ∈ lw_tb := lw_in (tb_8 _ (List.mem_of_getElem? (i := 161) rfl)) rfl
theorem m_L_145 : Cond.methodLink RL 145 yX9_loaf ∈ lw_tb := lw_in (tb_8 _ (List.mem_of_getElem? (i := 165) rfl)) rfl
theorem m_L_149 : Cond.methodLink RL 149 yX9_chain ∈ lw_tb := lw_in (tb_8 _ (List.mem_of_getElem? (i := 169) rfl)) rfl
theorem m_X9_505 : Cond.methodLink RX9 505 yX9_areOn ∈ lw_tb := lw_in (tb_8 _ (List.mem_of_getElem? (i := 173) rfl)) rfl
theorem m_X9_508 : Cond.methodLink RX9 508 yX9_linksOf ∈ lw_tb := lw_in (tb_8 _ (List.mem_of_getElem? (i := 177) rfl)) rfl
theorem m_L_153 : Cond.methodLink RL 153 yX9_part ∈ lw_tb := lw_in (tb_8 _ (List.mem_of_getElem? (i := 181) rfl)) rfl
theorem m_L_104 : Cond.methodLink RL 104 yX9_bestFed ∈ lw_tb := lw_in (tb_8 _ (List.mem_of_getElem? (i := 185) rfl)) rfl
theorem m_X9_511 : Cond.methodLink RX9 511 yX9_feeds ∈ lw_tb := lw_in (tb_8 _ (List.mem_of_getElem? (i := 189) rfl)) rfl
theorem m_L_108 : Cond.methodLink RL 108 yX9_rests ∈ lw_tb := lw_in (tb_8 _ (List.mem_of_getElem? (i := 193) rfl)) rfl
theorem m_X9_518 : Cond.methodLink RX9 518 yX9_restAt ∈ lw_tb := lw_in (tb_8 _ (List.mem_of_getElem? (i := 197) rfl)) rfl
theorem m_X9_514 : Cond.methodLink RX9 514 yX9_hasBy ∈ lw_tb := lw_in (tb_8 _ (List.mem_of_getElem? (i := 201) rfl)) rfl
theorem m_L_112 : Cond.methodLink RL 112 yX9_rest ∈ lw_tb := lw_in (tb_8 _ (List.mem_of_getElem? (i := 205) rfl)) rfl
theorem m_L_117 : Cond.methodLink RL 117 yX9_warm ∈ lw_tb := lw_in (tb_8 _ (List.mem_of_getElem? (i := 209) rfl)) rfl
theorem m_L_121 : Cond.methodLink RL 121 yX9_bowl ∈ lw_tb := lw_in (tb_8 _ (List.mem_of_getElem? (i := 215) rfl)) rfl
theorem m_L_125 : Cond.methodLink RL 125 yX9_uppermost ∈ lw_tb := lw_in (tb_8 _ (List.mem_of_getElem? (i := 219) rfl)) rfl
theorem m_L_129 : Cond.methodLink RL 129 yX9_hungriest ∈ lw_tb := lw_in (tb_8 _ (List.mem_of_getElem? (i := 223) rfl)) rfl
theorem m_L_157 : Cond.methodLink RL 157 yX9_rudest ∈ lw_tb := lw_in (tb_8 _ (List.mem_of_getElem? (i := 227) rfl)) rfl
theorem m_L_133 : Cond.methodLink RL 133 yX9_marked ∈ lw_tb := lw_in (tb_8 _ (List.mem_of_getElem? (i := 231) rfl)) rfl
theorem m_L_161 : Cond.methodLink RL 161 yX9_grace ∈ lw_tb := lw_in (tb_8 _ (List.mem_of_getElem? (i := 235) rfl)) rfl
theorem m_L_165 : Cond.methodLink RL 165 yX9_untouched ∈ lw_tb := lw_in (tb_8 _ (List.mem_of_getElem? (i := 239) rfl)) rfl
theorem m_L_137 : Cond.methodLink RL 137 yX9_apart ∈ lw_tb := lw_in (tb_9 _ (List.mem_of_getElem? (i := 3) rfl)) rfl
theorem m_L_170 : Cond.methodLink RL 170 yX9_see ∈ lw_tb := lw_in (tb_9 _ (List.mem_of_getElem? (i := 7) rfl)) rfl
theorem m_X9_525 : Cond.methodLink RX9 525 yX9_noted ∈ lw_tb := lw_in (tb_9 _ (List.mem_of_getElem? (i := 11) rfl)) rfl
theorem m_L_174 : Cond.methodLink RL 174 yX9_strike ∈ lw_tb := lw_in (tb_9 _ (List.mem_of_getElem? (i := 15) rfl)) rfl
theorem m_L_178 : Cond.methodLink RL 178 yX9_known ∈ lw_tb := lw_in (tb_9 _ (List.mem_of_getElem? (i := 19) rfl)) rfl
theorem m_L_182 : Cond.methodLink RL 182 yX9_sweets ∈ lw_tb := lw_in (tb_9 _ (List.mem_of_getElem? (i := 23) rfl)) rfl
theorem m_X9_528 : Cond.methodLink RX9 528 yX9_knownBy ∈ lw_tb := lw_in (tb_9 _ (List.mem_of_getElem? (i := 27) rfl)) rfl
theorem m_X9_534 : Cond.methodLink RX9 534 yX9_fits ∈ lw_tb := lw_in (tb_9 _ (List.mem_of_getElem? (i := 31) rfl)) rfl
theorem m_X9_531 : Cond.methodLink RX9 531 yX9_isSo ∈ lw_tb := lw_in (tb_9 _ (List.mem_of_getElem? (i := 35) rfl)) rfl
theorem m_L_186 : Cond.methodLink RL 186 yX9_chance ∈ lw_tb := lw_in (tb_9 _ (List.mem_of_getElem? (i := 39) rfl)) rfl
theorem m_L_190 : Cond.methodLink RL 190 yX9_tried ∈ lw_tb := lw_in (tb_9 _ (List.mem_of_getElem? (i := 43) rfl)) rfl
theorem m_L_194 : Cond.methodLink RL 194 yX9_undo ∈ lw_tb := lw_in (tb_9 _ (List.mem_of_getElem? (i := 47) rfl)) rfl
theorem m_X9_540 : Cond.methodLink RX9 540 yX9_take ∈ lw_tb := lw_in (tb_9 _ (List.mem_of_getElem? (i := 51) rfl)) rfl
theorem m_L_198 : Cond.methodLink RL 198 yX9_keep ∈ lw_tb := lw_in (tb_9 _ (List.mem_of_getElem? (i := 55) rfl)) rfl
theorem m_L_202 : Cond.methodLink RL 202 yX9_back ∈ lw_tb := lw_in (tb_9 _ (List.mem_of_getElem? (i := 59) rfl)) rfl
theorem m_L_206 : Cond.methodLink RL 206 yX9_count ∈ lw_tb := lw_in (tb_9 _ (List.mem_of_getElem? (i := 63) rfl)) rfl
theorem k_bipush_m2 : (Int8.ofInt (-2)).toInt32 = (-2 : Int32) := by decide
theorem k_bipush_6 : (Int8.ofInt (6)).toInt32 = (6 : Int32) := by decide
theorem k_bipush_7 : (Int8.ofInt (7)).toInt32 = (7 : Int32) := by decide
theorem k_bipush_8 : (Int8.ofInt (8)).toInt32 = (8 : Int32) := by decide
theorem k_bipush_9 : (Int8.ofInt (9)).toInt32 = (9 : Int32) := by decide
theorem k_bipush_10 : (Int8.ofInt (10)).toInt32 = (10 : Int32) := by decide
theorem k_bipush_11 : (Int8.ofInt (11)).toInt32 = (11 : Int32) := by decide
theorem k_bipush_12 : (Int8.ofInt (12)).toInt32 = (12 : Int32) := by decide
theorem k_bipush_13 : (Int8.ofInt (13)).toInt32 = (13 : Int32) := by decide
theorem k_bipush_14 : (Int8.ofInt (14)).toInt32 = (14 : Int32) := by decide
theorem k_bipush_15 : (Int8.ofInt (15)).toInt32 = (15 : Int32) := by decide
theorem k_bipush_16 : (Int8.ofInt (16)).toInt32 = (16 : Int32) := by decide
theorem k_bipush_17 : (Int8.ofInt (17)).toInt32 = (17 : Int32) := by decide
theorem k_bipush_18 : (Int8.ofInt (18)).toInt32 = (18 : Int32) := by decide
theorem k_bipush_19 : (Int8.ofInt (19)).toInt32 = (19 : Int32) := by decide
theorem k_bipush_20 : (Int8.ofInt (20)).toInt32 = (20 : Int32) := by decide
theorem k_bipush_21 : (Int8.ofInt (21)).toInt32 = (21 : Int32) := by decide
theorem k_bipush_22 : (Int8.ofInt (22)).toInt32 = (22 : Int32) := by decide
theorem k_bipush_23 : (Int8.ofInt (23)).toInt32 = (23 : Int32) := by decide
theorem k_bipush_24 : (Int8.ofInt (24)).toInt32 = (24 : Int32) := by decide
theorem k_bipush_25 : (Int8.ofInt (25)).toInt32 = (25 : Int32) := by decide
theorem k_bipush_26 : (Int8.ofInt (26)).toInt32 = (26 : Int32) := by decide
theorem k_bipush_27 : (Int8.ofInt (27)).toInt32 = (27 : Int32) := by decide
theorem k_bipush_28 : (Int8.ofInt (28)).toInt32 = (28 : Int32) := by decide
theorem k_bipush_29 : (Int8.ofInt (29)).toInt32 = (29 : Int32) := by decide
theorem k_bipush_30 : (Int8.ofInt (30)).toInt32 = (30 : Int32) := by decide
theorem k_bipush_31 : (Int8.ofInt (31)).toInt32 = (31 : Int32) := by decide
theorem k_bipush_32 : (Int8.ofInt (32)).toInt32 = (32 : Int32) := by decide
theorem k_bipush_33 : (Int8.ofInt (33)).toInt32 = (33 : Int32) := by decide
theorem k_bipush_34 : (Int8.ofInt (34)).toInt32 = (34 : Int32) := by decide
theorem k_bipush_35 : (Int8.ofInt (35)).toInt32 = (35 : Int32) := by decide
theorem k_bipush_36 : (Int8.ofInt (36)).toInt32 = (36 : Int32) := by decide
theorem k_bipush_37 : (Int8.ofInt (37)).toInt32 = (37 : Int32) := by decide
theorem k_bipush_38 : (Int8.ofInt (38)).toInt32 = (38 : Int32) := by decide
theorem k_bipush_39 : (Int8.ofInt (39)).toInt32 = (39 : Int32) := by decide
theorem k_bipush_40 : (Int8.ofInt (40)).toInt32 = (40 : Int32) := by decide
theorem k_bipush_41 : (Int8.ofInt (41)).toInt32 = (41 : Int32) := by decide
theorem k_bipush_42 : (Int8.ofInt (42)).toInt32 = (42 : Int32) := by decide
theorem k_bipush_43 : (Int8.ofInt (43)).toInt32 = (43 : Int32) := by decide
theorem k_bipush_44 : (Int8.ofInt (44)).toInt32 = (44 : Int32) := by decide
theorem k_bipush_45 : (Int8.ofInt (45)).toInt32 = (45 : Int32) := by decide
theorem k_bipush_46 : (Int8.ofInt (46)).toInt32 = (46 : Int32) := by decide
theorem k_bipush_47 : (Int8.ofInt (47)).toInt32 = (47 : Int32) := by decide
theorem k_bipush_48 : (Int8.ofInt (48)).toInt32 = (48 : Int32) := by decide
theorem k_bipush_49 : (Int8.ofInt (49)).toInt32 = (49 : Int32) := by decide
theorem k_bipush_50 : (Int8.ofInt (50)).toInt32 = (50 : Int32) := by decide
theorem k_bipush_51 : (Int8.ofInt (51)).toInt32 = (51 : Int32) := by decide
theorem k_bipush_52 : (Int8.ofInt (52)).toInt32 = (52 : Int32) := by decide
theorem k_bipush_53 : (Int8.ofInt (53)).toInt32 = (53 : Int32) := by decide
theorem k_bipush_54 : (Int8.ofInt (54)).toInt32 = (54 : Int32) := by decide
theorem k_bipush_55 : (Int8.ofInt (55)).toInt32 = (55 : Int32) := by decide
theorem k_bipush_56 : (Int8.ofInt (56)).toInt32 = (56 : Int32) := by decide
theorem k_bipush_57 : (Int8.ofInt (57)).toInt32 = (57 : Int32) := by decide
theorem k_bipush_58 : (Int8.ofInt (58)).toInt32 = (58 : Int32) := by decide
theorem k_bipush_59 : (Int8.ofInt (59)).toInt32 = (59 : Int32) := by decide
theorem k_bipush_60 : (Int8.ofInt (60)).toInt32 = (60 : Int32) := by decide
theorem k_bipush_61 : (Int8.ofInt (61)).toInt32 = (61 : Int32) := by decide
theorem k_bipush_62 : (Int8.ofInt (62)).toInt32 = (62 : Int32) := by decide
theorem k_bipush_63 : (Int8.ofInt (63)).toInt32 = (63 : Int32) := by decide
theorem k_bipush_64 : (Int8.ofInt (64)).toInt32 = (64 : Int32) := by decide
theorem k_bipush_65 : (Int8.ofInt (65)).toInt32 = (65 : Int32) := by decide
theorem k_bipush_66 : (Int8.ofInt (66)).toInt32 = (66 : Int32) := by decide
theorem k_bipush_67 : (Int8.ofInt (67)).toInt32 = (67 : Int32) := by decide
theorem k_bipush_68 : (Int8.ofInt (68)).toInt32 = (68 : Int32) := by decide
theorem k_bipush_69 : (Int8.ofInt (69)).toInt32 = (69 : Int32) := by decide
theorem k_bipush_70 : (Int8.ofInt (70)).toInt32 = (70 : Int32) := by decide
theorem k_bipush_71 : (Int8.ofInt (71)).toInt32 = (71 : Int32) := by decide
theorem k_bipush_72 : (Int8.ofInt (72)).toInt32 = (72 : Int32) := by decide
theorem k_bipush_73 : (Int8.ofInt (73)).toInt32 = (73 : Int32) := by decide
theorem k_bipush_74 : (Int8.ofInt (74)).toInt32 = (74 : Int32) := by decide
theorem k_bipush_75 : (Int8.ofInt (75)).toInt32 = (75 : Int32) := by decide
theorem k_bipush_76 : (Int8.ofInt (76)).toInt32 = (76 : Int32) := by decide
theorem k_bipush_77 : (Int8.ofInt (77)).toInt32 = (77 : Int32) := by decide
theorem k_bipush_78 : (Int8.ofInt (78)).toInt32 = (78 : Int32) := by decide
theorem k_bipush_79 : (Int8.ofInt (79)).toInt32 = (79 : Int32) := by decide
theorem k_bipush_80 : (Int8.ofInt (80)).toInt32 = (80 : Int32) := by decide
theorem k_bipush_81 : (Int8.ofInt (81)).toInt32 = (81 : Int32) := by decide
theorem k_bipush_82 : (Int8.ofInt (82)).toInt32 = (82 : Int32) := by decide
theorem k_bipush_83 : (Int8.ofInt (83)).toInt32 = (83 : Int32) := by decide
theorem k_bipush_84 : (Int8.ofInt (84)).toInt32 = (84 : Int32) := by decide
theorem k_bipush_85 : (Int8.ofInt (85)).toInt32 = (85 : Int32) := by decide
theorem k_bipush_86 : (Int8.ofInt (86)).toInt32 = (86 : Int32) := by decide
theorem k_bipush_87 : (Int8.ofInt (87)).toInt32 = (87 : Int32) := by decide
theorem k_bipush_88 : (Int8.ofInt (88)).toInt32 = (88 : Int32) := by decide
theorem k_bipush_89 : (Int8.ofInt (89)).toInt32 = (89 : Int32) := by decide
theorem k_bipush_90 : (Int8.ofInt (90)).toInt32 = (90 : Int32) := by decide
theorem k_bipush_91 : (Int8.ofInt (91)).toInt32 = (91 : Int32) := by decide
theorem k_bipush_92 : (Int8.ofInt (92)).toInt32 = (92 : Int32) := by decide
theorem k_bipush_93 : (Int8.ofInt (93)).toInt32 = (93 : Int32) := by decide
theorem k_bipush_94 : (Int8.ofInt (94)).toInt32 = (94 : Int32) := by decide
theorem k_bipush_95 : (Int8.ofInt (95)).toInt32 = (95 : Int32) := by decide
theorem k_bipush_96 : (Int8.ofInt (96)).toInt32 = (96 : Int32) := by decide
theorem k_bipush_97 : (Int8.ofInt (97)).toInt32 = (97 : Int32) := by decide
theorem k_bipush_98 : (Int8.ofInt (98)).toInt32 = (98 : Int32) := by decide
theorem k_bipush_99 : (Int8.ofInt (99)).toInt32 = (99 : Int32) := by decide
theorem k_bipush_100 : (Int8.ofInt (100)).toInt32 = (100 : Int32) := by decide
theorem k_bipush_101 : (Int8.ofInt (101)).toInt32 = (101 : Int32) := by decide
theorem k_bipush_102 : (Int8.ofInt (102)).toInt32 = (102 : Int32) := by decide
theorem k_bipush_103 : (Int8.ofInt (103)).toInt32 = (103 : Int32) := by decide
theorem k_bipush_104 : (Int8.ofInt (104)).toInt32 = (104 : Int32) := by decide
theorem k_bipush_105 : (Int8.ofInt (105)).toInt32 = (105 : Int32) := by decide
theorem k_bipush_106 : (Int8.ofInt (106)).toInt32 = (106 : Int32) := by decide
theorem k_bipush_107 : (Int8.ofInt (107)).toInt32 = (107 : Int32) := by decide
theorem k_bipush_108 : (Int8.ofInt (108)).toInt32 = (108 : Int32) := by decide
theorem k_bipush_109 : (Int8.ofInt (109)).toInt32 = (109 : Int32) := by decide
theorem k_bipush_110 : (Int8.ofInt (110)).toInt32 = (110 : Int32) := by decide
theorem k_bipush_111 : (Int8.ofInt (111)).toInt32 = (111 : Int32) := by decide
theorem k_bipush_112 : (Int8.ofInt (112)).toInt32 = (112 : Int32) := by decide
theorem k_bipush_114 : (Int8.ofInt (114)).toInt32 = (114 : Int32) := by decide
theorem k_bipush_115 : (Int8.ofInt (115)).toInt32 = (115 : Int32) := by decide
theorem k_bipush_116 : (Int8.ofInt (116)).toInt32 = (116 : Int32) := by decide
theorem k_bipush_117 : (Int8.ofInt (117)).toInt32 = (117 : Int32) := by decide
theorem k_bipush_119 : (Int8.ofInt (119)).toInt32 = (119 : Int32) := by decide
theorem k_bipush_120 : (Int8.ofInt (120)).toInt32 = (120 : Int32) := by decide
theorem k_bipush_122 : (Int8.ofInt (122)).toInt32 = (122 : Int32) := by decide
theorem k_iconst_m8 : Int32.ofInt (-8) = (-8 : Int32) := by decide
theorem k_iconst_m1 : Int32.ofInt (-1) = (-1 : Int32) := by decide
theorem k_iconst_0 : Int32.ofInt (0) = (0 : Int32) := by decide
theorem k_iconst_1 : Int32.ofInt (1) = (1 : Int32) := by decide
theorem k_iconst_2 : Int32.ofInt (2) = (2 : Int32) := by decide
theorem k_iconst_3 : Int32.ofInt (3) = (3 : Int32) := by decide
theorem k_iconst_4 : Int32.ofInt (4) = (4 : Int32) := by decide
theorem k_iconst_5 : Int32.ofInt (5) = (5 : Int32) := by decide
theorem k_iconst_6 : Int32.ofInt (6) = (6 : Int32) := by decide
theorem k_sipush_128 : (Int16.ofInt (128)).toInt32 = (128 : Int32) := by decide
theorem k_sipush_199 : (Int16.ofInt (199)).toInt32 = (199 : Int32) := by decide
theorem k_sipush_200 : (Int16.ofInt (200)).toInt32 = (200 : Int32) := by decide
theorem k_sipush_255 : (Int16.ofInt (255)).toInt32 = (255 : Int32) := by decide
theorem k_sipush_342 : (Int16.ofInt (342)).toInt32 = (342 : Int32) := by decide
theorem k_sipush_360 : (Int16.ofInt (360)).toInt32 = (360 : Int32) := by decide
theorem k_sipush_680 : (Int16.ofInt (680)).toInt32 = (680 : Int32) := by decide
theorem k_sipush_700 : (Int16.ofInt (700)).toInt32 = (700 : Int32) := by decide
theorem k_sipush_701 : (Int16.ofInt (701)).toInt32 = (701 : Int32) := by decide
theorem k_sipush_999 : (Int16.ofInt (999)).toInt32 = (999 : Int32) := by decide
theorem k_sipush_9000 : (Int16.ofInt (9000)).toInt32 = (9000 : Int32) := by decide
theorem k_sipush_9999 : (Int16.ofInt (9999)).toInt32 = (9999 : Int32) := by decide
theorem l_X5_97 : Cond.constant RX5 97 (1000000) ∈ lw_tb := lw_in (tb_3 _ (List.mem_of_getElem? (i := 69) rfl)) rfl
theorem l_X2_153 : Cond.constant RX2 153 (99999) ∈ lw_tb := lw_in (tb_3 _ (List.mem_of_getElem? (i := 130) rfl)) rfl
theorem l_X8_178 : Cond.constantLong RX8 178 (-9223372036854775808) ∈ lw_tb := lw_in (tb_3 _ (List.mem_of_getElem? (i := 216) rfl)) rfl
theorem l_X0_126 : Cond.constantLong RX0 126 (-9223372036854775808) ∈ lw_tb := lw_in (tb_3 _ (List.mem_of_getElem? (i := 230) rfl)) rfl
theorem l_J6_265 : Cond.constant RJ6 265 (1431655765) ∈ lw_tb := lw_in (tb_4 _ (List.mem_of_getElem? (i := 2) rfl)) rfl
theorem l_J6_266 : Cond.constant RJ6 266 (858993459) ∈ lw_tb := lw_in (tb_4 _ (List.mem_of_getElem? (i := 3) rfl)) rfl
theorem l_J6_267 : Cond.constant RJ6 267 (252645135) ∈ lw_tb := lw_in (tb_4 _ (List.mem_of_getElem? (i := 4) rfl)) rfl
theorem l_X1_36 : Cond.constantLong RX1 36 (-9223372036854775808) ∈ lw_tb := lw_in (tb_4 _ (List.mem_of_getElem? (i := 9) rfl)) rfl
theorem l_X1_42 : Cond.constantLong RX1 42 (1000000000000) ∈ lw_tb := lw_in (tb_4 _ (List.mem_of_getElem? (i := 13) rfl)) rfl
theorem l_X1_44 : Cond.constantLong RX1 44 (-1000000000000) ∈ lw_tb := lw_in (tb_4 _ (List.mem_of_getElem? (i := 14) rfl)) rfl
theorem l_X0_189 : Cond.constantLong RX0 189 (99) ∈ lw_tb := lw_in (tb_4 _ (List.mem_of_getElem? (i := 122) rfl)) rfl
theorem l_X3_56 : Cond.constantLong RX3 56 (1103515245) ∈ lw_tb := lw_in (tb_4 _ (List.mem_of_getElem? (i := 150) rfl)) rfl
theorem l_X3_58 : Cond.constantLong RX3 58 (12345) ∈ lw_tb := lw_in (tb_4 _ (List.mem_of_getElem? (i := 151) rfl)) rfl
theorem l_X3_60 : Cond.constantLong RX3 60 (2147483647) ∈ lw_tb := lw_in (tb_4 _ (List.mem_of_getElem? (i := 152) rfl)) rfl
theorem l_X3_62 : Cond.constant RX3 62 (65536) ∈ lw_tb := lw_in (tb_4 _ (List.mem_of_getElem? (i := 153) rfl)) rfl
theorem l_X8_289 : Cond.constantLong RX8 289 (-1) ∈ lw_tb := lw_in (tb_5 _ (List.mem_of_getElem? (i := 23) rfl)) rfl
theorem l_X9_180 : Cond.constant RX9 180 (99999) ∈ lw_tb := lw_in (tb_7 _ (List.mem_of_getElem? (i := 87) rfl)) rfl
theorem l_X9_467 : Cond.constantLong RX9 467 (-9223372036854775808) ∈ lw_tb := lw_in (tb_7 _ (List.mem_of_getElem? (i := 228) rfl)) rfl
theorem l_X9_318 : Cond.constantLong RX9 318 (1000000000000) ∈ lw_tb := lw_in (tb_8 _ (List.mem_of_getElem? (i := 13) rfl)) rfl
theorem l_X9_320 : Cond.constantLong RX9 320 (-1000000000000) ∈ lw_tb := lw_in (tb_8 _ (List.mem_of_getElem? (i := 14) rfl)) rfl
theorem l_X9_402 : Cond.constantLong RX9 402 (99) ∈ lw_tb := lw_in (tb_8 _ (List.mem_of_getElem? (i := 78) rfl)) rfl
theorem l_X9_414 : Cond.constantLong RX9 414 (1103515245) ∈ lw_tb := lw_in (tb_8 _ (List.mem_of_getElem? (i := 95) rfl)) rfl
theorem l_X9_416 : Cond.constantLong RX9 416 (12345) ∈ lw_tb := lw_in (tb_8 _ (List.mem_of_getElem? (i := 96) rfl)) rfl
theorem l_X9_418 : Cond.constantLong RX9 418 (2147483647) ∈ lw_tb := lw_in (tb_8 _ (List.mem_of_getElem? (i := 97) rfl)) rfl
theorem l_X9_420 : Cond.constantLong RX9 420 (65536) ∈ lw_tb := lw_in (tb_8 _ (List.mem_of_getElem? (i := 98) rfl)) rfl
theorem l_X9_521 : Cond.constantLong RX9 521 (-1) ∈ lw_tb := lw_in (tb_8 _ (List.mem_of_getElem? (i := 213) rfl)) rfl
theorem l_X9_523 : Cond.constantLong RX9 523 (100) ∈ lw_tb := lw_in (tb_8 _ (List.mem_of_getElem? (i := 214) rfl)) rfl
theorem k_lconst_0 : Int64.ofNat ((0 : Fin 2) : Nat) = (0 : Int64) := by decide
theorem k_lconst_1 : Int64.ofNat ((1 : Fin 2) : Nat) = (1 : Int64) := by decide
