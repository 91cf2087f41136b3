theorem wX0_tbl : ∀ w ∈ u_ws RX0 TX0 3, w ∈ lw_tbl := by decide +kernel
theorem wX0_good : (u_ws RX0 TX0 3).all xgood = true := by decide +kernel
theorem wX0_in : ∀ w ∈ u_ws RX0 TX0 3, w ∈ TG := fun w hw => TG_in (wX0_tbl w hw) (List.all_eq_true.mp wX0_good w hw)
theorem wX1_tbl : ∀ w ∈ u_ws RX1 TX1 3, w ∈ lw_tbl := by decide +kernel
theorem wX1_good : (u_ws RX1 TX1 3).all xgood = true := by decide +kernel
theorem wX1_in : ∀ w ∈ u_ws RX1 TX1 3, w ∈ TG := fun w hw => TG_in (wX1_tbl w hw) (List.all_eq_true.mp wX1_good w hw)
theorem wX2_tbl : ∀ w ∈ u_ws RX2 TX2 4, w ∈ lw_tbl := by decide +kernel
theorem wX2_good : (u_ws RX2 TX2 4).all xgood = true := by decide +kernel
theorem wX2_in : ∀ w ∈ u_ws RX2 TX2 4, w ∈ TG := fun w hw => TG_in (wX2_tbl w hw) (List.all_eq_true.mp wX2_good w hw)
theorem wX3_tbl : ∀ w ∈ u_ws RX3 TX3 4, w ∈ lw_tbl := by decide +kernel
theorem wX3_good : (u_ws RX3 TX3 4).all xgood = true := by decide +kernel
theorem wX3_in : ∀ w ∈ u_ws RX3 TX3 4, w ∈ TG := fun w hw => TG_in (wX3_tbl w hw) (List.all_eq_true.mp wX3_good w hw)
theorem wX4_tbl : ∀ w ∈ u_ws RX4 TX4 5, w ∈ lw_tbl := by decide +kernel
theorem wX4_good : (u_ws RX4 TX4 5).all xgood = true := by decide +kernel
theorem wX4_in : ∀ w ∈ u_ws RX4 TX4 5, w ∈ TG := fun w hw => TG_in (wX4_tbl w hw) (List.all_eq_true.mp wX4_good w hw)
theorem wX5_tbl : ∀ w ∈ u_ws RX5 TX5 3, w ∈ lw_tbl := by decide +kernel
theorem wX5_good : (u_ws RX5 TX5 3).all xgood = true := by decide +kernel
theorem wX5_in : ∀ w ∈ u_ws RX5 TX5 3, w ∈ TG := fun w hw => TG_in (wX5_tbl w hw) (List.all_eq_true.mp wX5_good w hw)
theorem wX6_tbl : ∀ w ∈ u_ws RX6 TX6 3, w ∈ lw_tbl := by decide +kernel
theorem wX6_good : (u_ws RX6 TX6 3).all xgood = true := by decide +kernel
theorem wX6_in : ∀ w ∈ u_ws RX6 TX6 3, w ∈ TG := fun w hw => TG_in (wX6_tbl w hw) (List.all_eq_true.mp wX6_good w hw)
theorem wX7_tbl : ∀ w ∈ u_ws RX7 TX7 2, w ∈ lw_tbl := by decide +kernel
theorem wX7_good : (u_ws RX7 TX7 2).all xgood = true := by decide +kernel
theorem wX7_in : ∀ w ∈ u_ws RX7 TX7 2, w ∈ TG := fun w hw => TG_in (wX7_tbl w hw) (List.all_eq_true.mp wX7_good w hw)
theorem wX8_tbl : ∀ w ∈ u_ws RX8 TX8 8, w ∈ lw_tbl := by decide +kernel
theorem wX8_good : (u_ws RX8 TX8 8).all xgood = true := by decide +kernel
theorem wX8_in : ∀ w ∈ u_ws RX8 TX8 8, w ∈ TG := fun w hw => TG_in (wX8_tbl w hw) (List.all_eq_true.mp wX8_good w hw)
theorem fX7_9 : FA RX7 9 7 0 true (.array .int) := ⟨RX7, TX7, 2, tyX7, rfl, by decide, TG_in (List.mem_append_right _ (List.mem_of_getElem? (i := 27) (by decide +kernel))) (by decide +kernel), rfl, rfl, tyX7_ok 0 (by decide), wX7_in, tyX7_ok, nmX7⟩
theorem fX7_15 : FA RX7 15 7 1 false .int := ⟨RX7, TX7, 2, tyX7, rfl, by decide, TG_in (List.mem_append_right _ (List.mem_of_getElem? (i := 28) (by decide +kernel))) (by decide +kernel), rfl, rfl, tyX7_ok 1 (by decide), wX7_in, tyX7_ok, nmX7⟩
theorem fX4_21 : FA RX4 21 7 1 false .int := ⟨RX7, TX7, 2, tyX7, rfl, by decide, TG_in (List.mem_append_right _ (List.mem_of_getElem? (i := 29) (by decide +kernel))) (by decide +kernel), rfl, rfl, tyX7_ok 1 (by decide), wX7_in, tyX7_ok, nmX7⟩
theorem fX2_41 : FA RX2 41 7 1 false .int := ⟨RX7, TX7, 2, tyX7, rfl, by decide, TG_in (List.mem_append_right _ (List.mem_of_getElem? (i := 30) (by decide +kernel))) (by decide +kernel), rfl, rfl, tyX7_ok 1 (by decide), wX7_in, tyX7_ok, nmX7⟩
theorem fX8_189 : FA RX8 189 7 1 false .int := ⟨RX7, TX7, 2, tyX7, rfl, by decide, TG_in (List.mem_append_right _ (List.mem_of_getElem? (i := 31) (by decide +kernel))) (by decide +kernel), rfl, rfl, tyX7_ok 1 (by decide), wX7_in, tyX7_ok, nmX7⟩
theorem fX4_9 : FA RX4 9 4 0 true (.array .int) := ⟨RX4, TX4, 5, tyX4, rfl, by decide, TG_in (List.mem_append_right _ (List.mem_of_getElem? (i := 44) (by decide +kernel))) (by decide +kernel), rfl, rfl, tyX4_ok 0 (by decide), wX4_in, tyX4_ok, nmX4⟩
theorem fX4_15 : FA RX4 15 4 1 true (.array .int) := ⟨RX4, TX4, 5, tyX4, rfl, by decide, TG_in (List.mem_append_right _ (List.mem_of_getElem? (i := 45) (by decide +kernel))) (by decide +kernel), rfl, rfl, tyX4_ok 1 (by decide), wX4_in, tyX4_ok, nmX4⟩
theorem fX4_43 : FA RX4 43 4 2 false .int := ⟨RX4, TX4, 5, tyX4, rfl, by decide, TG_in (List.mem_append_right _ (List.mem_of_getElem? (i := 46) (by decide +kernel))) (by decide +kernel), rfl, rfl, tyX4_ok 2 (by decide), wX4_in, tyX4_ok, nmX4⟩
theorem fX4_31 : FA RX4 31 4 3 false .boolean := ⟨RX4, TX4, 5, tyX4, rfl, by decide, TG_in (List.mem_append_right _ (List.mem_of_getElem? (i := 47) (by decide +kernel))) (by decide +kernel), rfl, rfl, tyX4_ok 3 (by decide), wX4_in, tyX4_ok, nmX4⟩
theorem fX4_46 : FA RX4 46 4 4 false .int := ⟨RX4, TX4, 5, tyX4, rfl, by decide, TG_in (List.mem_append_right _ (List.mem_of_getElem? (i := 48) (by decide +kernel))) (by decide +kernel), rfl, rfl, tyX4_ok 4 (by decide), wX4_in, tyX4_ok, nmX4⟩
theorem fX5_9 : FA RX5 9 5 0 true (.array .int) := ⟨RX5, TX5, 3, tyX5, rfl, by decide, TG_in (List.mem_append_right _ (List.mem_of_getElem? (i := 66) (by decide +kernel))) (by decide +kernel), rfl, rfl, tyX5_ok 0 (by decide), wX5_in, tyX5_ok, nmX5⟩
theorem fX5_15 : FA RX5 15 5 1 true (.array .int) := ⟨RX5, TX5, 3, tyX5, rfl, by decide, TG_in (List.mem_append_right _ (List.mem_of_getElem? (i := 67) (by decide +kernel))) (by decide +kernel), rfl, rfl, tyX5_ok 1 (by decide), wX5_in, tyX5_ok, nmX5⟩
theorem fX5_18 : FA RX5 18 5 2 false .int := ⟨RX5, TX5, 3, tyX5, rfl, by decide, TG_in (List.mem_append_right _ (List.mem_of_getElem? (i := 68) (by decide +kernel))) (by decide +kernel), rfl, rfl, tyX5_ok 2 (by decide), wX5_in, tyX5_ok, nmX5⟩
theorem fX8_170 : FA RX8 170 5 2 false .int := ⟨RX5, TX5, 3, tyX5, rfl, by decide, TG_in (List.mem_append_right _ (List.mem_of_getElem? (i := 69) (by decide +kernel))) (by decide +kernel), rfl, rfl, tyX5_ok 2 (by decide), wX5_in, tyX5_ok, nmX5⟩
theorem fX2_9 : FA RX2 9 2 0 true (.array .int) := ⟨RX2, TX2, 4, tyX2, rfl, by decide, TG_in (List.mem_append_right _ (List.mem_of_getElem? (i := 96) (by decide +kernel))) (by decide +kernel), rfl, rfl, tyX2_ok 0 (by decide), wX2_in, tyX2_ok, nmX2⟩
theorem fX2_15 : FA RX2 15 2 1 true (.array .int) := ⟨RX2, TX2, 4, tyX2, rfl, by decide, TG_in (List.mem_append_right _ (List.mem_of_getElem? (i := 97) (by decide +kernel))) (by decide +kernel), rfl, rfl, tyX2_ok 1 (by decide), wX2_in, tyX2_ok, nmX2⟩
theorem fX2_18 : FA RX2 18 2 2 true (.array .int) := ⟨RX2, TX2, 4, tyX2, rfl, by decide, TG_in (List.mem_append_right _ (List.mem_of_getElem? (i := 98) (by decide +kernel))) (by decide +kernel), rfl, rfl, tyX2_ok 2 (by decide), wX2_in, tyX2_ok, nmX2⟩
theorem fX2_21 : FA RX2 21 2 3 false .int := ⟨RX2, TX2, 4, tyX2, rfl, by decide, TG_in (List.mem_append_right _ (List.mem_of_getElem? (i := 99) (by decide +kernel))) (by decide +kernel), rfl, rfl, tyX2_ok 3 (by decide), wX2_in, tyX2_ok, nmX2⟩
theorem fX8_66 : FA RX8 66 2 3 false .int := ⟨RX2, TX2, 4, tyX2, rfl, by decide, TG_in (List.mem_append_right _ (List.mem_of_getElem? (i := 100) (by decide +kernel))) (by decide +kernel), rfl, rfl, tyX2_ok 3 (by decide), wX2_in, tyX2_ok, nmX2⟩
theorem fX6_42 : FA RX6 42 2 3 false .int := ⟨RX2, TX2, 4, tyX2, rfl, by decide, TG_in (List.mem_append_right _ (List.mem_of_getElem? (i := 101) (by decide +kernel))) (by decide +kernel), rfl, rfl, tyX2_ok 3 (by decide), wX2_in, tyX2_ok, nmX2⟩
theorem fX1_9 : FA RX1 9 1 0 true (.array .int) := ⟨RX1, TX1, 3, tyX1, rfl, by decide, TG_in (List.mem_append_right _ (List.mem_of_getElem? (i := 117) (by decide +kernel))) (by decide +kernel), rfl, rfl, tyX1_ok 0 (by decide), wX1_in, tyX1_ok, nmX1⟩
theorem fX6_58 : FA RX6 58 1 0 true (.array .int) := ⟨RX1, TX1, 3, tyX1, rfl, by decide, TG_in (List.mem_append_right _ (List.mem_of_getElem? (i := 118) (by decide +kernel))) (by decide +kernel), rfl, rfl, tyX1_ok 0 (by decide), wX1_in, tyX1_ok, nmX1⟩
theorem fX1_15 : FA RX1 15 1 1 true (.array .int) := ⟨RX1, TX1, 3, tyX1, rfl, by decide, TG_in (List.mem_append_right _ (List.mem_of_getElem? (i := 119) (by decide +kernel))) (by decide +kernel), rfl, rfl, tyX1_ok 1 (by decide), wX1_in, tyX1_ok, nmX1⟩
theorem fX6_62 : FA RX6 62 1 1 true (.array .int) := ⟨RX1, TX1, 3, tyX1, rfl, by decide, TG_in (List.mem_append_right _ (List.mem_of_getElem? (i := 120) (by decide +kernel))) (by decide +kernel), rfl, rfl, tyX1_ok 1 (by decide), wX1_in, tyX1_ok, nmX1⟩
theorem fX1_18 : FA RX1 18 1 2 false .int := ⟨RX1, TX1, 3, tyX1, rfl, by decide, TG_in (List.mem_append_right _ (List.mem_of_getElem? (i := 121) (by decide +kernel))) (by decide +kernel), rfl, rfl, tyX1_ok 2 (by decide), wX1_in, tyX1_ok, nmX1⟩
theorem fX6_46 : FA RX6 46 1 2 false .int := ⟨RX1, TX1, 3, tyX1, rfl, by decide, TG_in (List.mem_append_right _ (List.mem_of_getElem? (i := 122) (by decide +kernel))) (by decide +kernel), rfl, rfl, tyX1_ok 2 (by decide), wX1_in, tyX1_ok, nmX1⟩
theorem fX3_9 : FA RX3 9 3 0 true (.array .int) := ⟨RX3, TX3, 4, tyX3, rfl, by decide, TG_in (List.mem_append_right _ (List.mem_of_getElem? (i := 136) (by decide +kernel))) (by decide +kernel), rfl, rfl, tyX3_ok 0 (by decide), wX3_in, tyX3_ok, nmX3⟩
theorem fX3_15 : FA RX3 15 3 1 true (.array .int) := ⟨RX3, TX3, 4, tyX3, rfl, by decide, TG_in (List.mem_append_right _ (List.mem_of_getElem? (i := 137) (by decide +kernel))) (by decide +kernel), rfl, rfl, tyX3_ok 1 (by decide), wX3_in, tyX3_ok, nmX3⟩
theorem fX5_25 : FA RX5 25 3 1 true (.array .int) := ⟨RX3, TX3, 4, tyX3, rfl, by decide, TG_in (List.mem_append_right _ (List.mem_of_getElem? (i := 138) (by decide +kernel))) (by decide +kernel), rfl, rfl, tyX3_ok 1 (by decide), wX3_in, tyX3_ok, nmX3⟩
theorem fX3_18 : FA RX3 18 3 2 true (.array .int) := ⟨RX3, TX3, 4, tyX3, rfl, by decide, TG_in (List.mem_append_right _ (List.mem_of_getElem? (i := 139) (by decide +kernel))) (by decide +kernel), rfl, rfl, tyX3_ok 2 (by decide), wX3_in, tyX3_ok, nmX3⟩
theorem fX5_28 : FA RX5 28 3 2 true (.array .int) := ⟨RX3, TX3, 4, tyX3, rfl, by decide, TG_in (List.mem_append_right _ (List.mem_of_getElem? (i := 140) (by decide +kernel))) (by decide +kernel), rfl, rfl, tyX3_ok 2 (by decide), wX3_in, tyX3_ok, nmX3⟩
theorem fX3_21 : FA RX3 21 3 3 false .int := ⟨RX3, TX3, 4, tyX3, rfl, by decide, TG_in (List.mem_append_right _ (List.mem_of_getElem? (i := 141) (by decide +kernel))) (by decide +kernel), rfl, rfl, tyX3_ok 3 (by decide), wX3_in, tyX3_ok, nmX3⟩
theorem fX5_22 : FA RX5 22 3 3 false .int := ⟨RX3, TX3, 4, tyX3, rfl, by decide, TG_in (List.mem_append_right _ (List.mem_of_getElem? (i := 142) (by decide +kernel))) (by decide +kernel), rfl, rfl, tyX3_ok 3 (by decide), wX3_in, tyX3_ok, nmX3⟩
theorem fX6_49 : FA RX6 49 3 3 false .int := ⟨RX3, TX3, 4, tyX3, rfl, by decide, TG_in (List.mem_append_right _ (List.mem_of_getElem? (i := 143) (by decide +kernel))) (by decide +kernel), rfl, rfl, tyX3_ok 3 (by decide), wX3_in, tyX3_ok, nmX3⟩
theorem fX8_202 : FA RX8 202 3 3 false .int := ⟨RX3, TX3, 4, tyX3, rfl, by decide, TG_in (List.mem_append_right _ (List.mem_of_getElem? (i := 144) (by decide +kernel))) (by decide +kernel), rfl, rfl, tyX3_ok 3 (by decide), wX3_in, tyX3_ok, nmX3⟩
theorem fX6_12 : FA RX6 12 6 0 true (.object "CloneOutline$Nodes") := ⟨RX6, TX6, 3, tyX6, rfl, by decide, TG_in (List.mem_append_right _ (List.mem_of_getElem? (i := 154) (by decide +kernel))) (by decide +kernel), rfl, rfl, tyX6_ok 0 (by decide), wX6_in, tyX6_ok, nmX6⟩
theorem fX8_62 : FA RX8 62 6 0 true (.object "CloneOutline$Nodes") := ⟨RX6, TX6, 3, tyX6, rfl, by decide, TG_in (List.mem_append_right _ (List.mem_of_getElem? (i := 155) (by decide +kernel))) (by decide +kernel), rfl, rfl, tyX6_ok 0 (by decide), wX6_in, tyX6_ok, nmX6⟩
theorem fX4_49 : FA RX4 49 6 0 true (.object "CloneOutline$Nodes") := ⟨RX6, TX6, 3, tyX6, rfl, by decide, TG_in (List.mem_append_right _ (List.mem_of_getElem? (i := 156) (by decide +kernel))) (by decide +kernel), rfl, rfl, tyX6_ok 0 (by decide), wX6_in, tyX6_ok, nmX6⟩
theorem fX6_21 : FA RX6 21 6 1 true (.object "CloneOutline$Links") := ⟨RX6, TX6, 3, tyX6, rfl, by decide, TG_in (List.mem_append_right _ (List.mem_of_getElem? (i := 157) (by decide +kernel))) (by decide +kernel), rfl, rfl, tyX6_ok 1 (by decide), wX6_in, tyX6_ok, nmX6⟩
theorem fX8_103 : FA RX8 103 6 1 true (.object "CloneOutline$Links") := ⟨RX6, TX6, 3, tyX6, rfl, by decide, TG_in (List.mem_append_right _ (List.mem_of_getElem? (i := 158) (by decide +kernel))) (by decide +kernel), rfl, rfl, tyX6_ok 1 (by decide), wX6_in, tyX6_ok, nmX6⟩
theorem fX4_68 : FA RX4 68 6 1 true (.object "CloneOutline$Links") := ⟨RX6, TX6, 3, tyX6, rfl, by decide, TG_in (List.mem_append_right _ (List.mem_of_getElem? (i := 159) (by decide +kernel))) (by decide +kernel), rfl, rfl, tyX6_ok 1 (by decide), wX6_in, tyX6_ok, nmX6⟩
theorem fX6_28 : FA RX6 28 6 2 true (.object "CloneOutline$Places") := ⟨RX6, TX6, 3, tyX6, rfl, by decide, TG_in (List.mem_append_right _ (List.mem_of_getElem? (i := 160) (by decide +kernel))) (by decide +kernel), rfl, rfl, tyX6_ok 2 (by decide), wX6_in, tyX6_ok, nmX6⟩
theorem fX8_84 : FA RX8 84 6 2 true (.object "CloneOutline$Places") := ⟨RX6, TX6, 3, tyX6, rfl, by decide, TG_in (List.mem_append_right _ (List.mem_of_getElem? (i := 161) (by decide +kernel))) (by decide +kernel), rfl, rfl, tyX6_ok 2 (by decide), wX6_in, tyX6_ok, nmX6⟩
theorem fX0_11 : FA RX0 11 0 0 true (.array (.object "CloneOutline$State")) := ⟨RX0, TX0, 3, tyX0, rfl, by decide, TG_in (List.mem_append_right _ (List.mem_of_getElem? (i := 169) (by decide +kernel))) (by decide +kernel), rfl, rfl, tyX0_ok 0 (by decide), wX0_in, tyX0_ok, nmX0⟩
theorem fX0_22 : FA RX0 22 0 1 false .int := ⟨RX0, TX0, 3, tyX0, rfl, by decide, TG_in (List.mem_append_right _ (List.mem_of_getElem? (i := 170) (by decide +kernel))) (by decide +kernel), rfl, rfl, tyX0_ok 1 (by decide), wX0_in, tyX0_ok, nmX0⟩
theorem fX0_18 : FA RX0 18 0 2 false .int := ⟨RX0, TX0, 3, tyX0, rfl, by decide, TG_in (List.mem_append_right _ (List.mem_of_getElem? (i := 171) (by decide +kernel))) (by decide +kernel), rfl, rfl, tyX0_ok 2 (by decide), wX0_in, tyX0_ok, nmX0⟩
theorem fX8_211 : FA RX8 211 0 2 false .int := ⟨RX0, TX0, 3, tyX0, rfl, by decide, TG_in (List.mem_append_right _ (List.mem_of_getElem? (i := 172) (by decide +kernel))) (by decide +kernel), rfl, rfl, tyX0_ok 2 (by decide), wX0_in, tyX0_ok, nmX0⟩
theorem fX8_10 : FA RX8 10 8 0 true (.object "CloneOutline$Typed") := ⟨RX8, TX8, 8, tyX8, rfl, by decide, TG_in (List.mem_append_right _ (List.mem_of_getElem? (i := 182) (by decide +kernel))) (by decide +kernel), rfl, rfl, tyX8_ok 0 (by decide), wX8_in, tyX8_ok, nmX8⟩
theorem fX8_19 : FA RX8 19 8 1 true (.object "CloneOutline$Reader") := ⟨RX8, TX8, 8, tyX8, rfl, by decide, TG_in (List.mem_append_right _ (List.mem_of_getElem? (i := 183) (by decide +kernel))) (by decide +kernel), rfl, rfl, tyX8_ok 1 (by decide), wX8_in, tyX8_ok, nmX8⟩
theorem fX8_26 : FA RX8 26 8 2 true (.object "CloneOutline$Rows") := ⟨RX8, TX8, 8, tyX8, rfl, by decide, TG_in (List.mem_append_right _ (List.mem_of_getElem? (i := 184) (by decide +kernel))) (by decide +kernel), rfl, rfl, tyX8_ok 2 (by decide), wX8_in, tyX8_ok, nmX8⟩
theorem fX8_33 : FA RX8 33 8 3 true (.object "CloneOutline$History") := ⟨RX8, TX8, 8, tyX8, rfl, by decide, TG_in (List.mem_append_right _ (List.mem_of_getElem? (i := 185) (by decide +kernel))) (by decide +kernel), rfl, rfl, tyX8_ok 3 (by decide), wX8_in, tyX8_ok, nmX8⟩
theorem fX8_40 : FA RX8 40 8 4 true (.object "CloneOutline$State") := ⟨RX8, TX8, 8, tyX8, rfl, by decide, TG_in (List.mem_append_right _ (List.mem_of_getElem? (i := 186) (by decide +kernel))) (by decide +kernel), rfl, rfl, tyX8_ok 4 (by decide), wX8_in, tyX8_ok, nmX8⟩
theorem fX8_44 : FA RX8 44 8 5 false .boolean := ⟨RX8, TX8, 8, tyX8, rfl, by decide, TG_in (List.mem_append_right _ (List.mem_of_getElem? (i := 187) (by decide +kernel))) (by decide +kernel), rfl, rfl, tyX8_ok 5 (by decide), wX8_in, tyX8_ok, nmX8⟩
theorem fX8_48 : FA RX8 48 8 6 false (.object "CloneOutline$State") := ⟨RX8, TX8, 8, tyX8, rfl, by decide, TG_in (List.mem_append_right _ (List.mem_of_getElem? (i := 188) (by decide +kernel))) (by decide +kernel), rfl, rfl, tyX8_ok 6 (by decide), wX8_in, tyX8_ok, nmX8⟩
theorem fX8_51 : FA RX8 51 8 7 false (.object "CloneOutline$State") := ⟨RX8, TX8, 8, tyX8, rfl, by decide, TG_in (List.mem_append_right _ (List.mem_of_getElem? (i := 189) (by decide +kernel))) (by decide +kernel), rfl, rfl, tyX8_ok 7 (by decide), wX8_in, tyX8_ok, nmX8⟩
abbrev mX8_init : MD := (yX8_init, cX8_init, 1, none)
theorem kcX8_init : Cond.code mX8_init.1 mX8_init.2.1 mX8_init.2.2.1 mX8_init.2.2.2 ∈ TG := TG_in (List.mem_append_right _ (List.mem_of_getElem? (i := 17) (by decide +kernel))) (by decide +kernel)
abbrev mX7_init : MD := (yX7_init, cX7_init, 1, none)
theorem kcX7_init : Cond.code mX7_init.1 mX7_init.2.1 mX7_init.2.2.1 mX7_init.2.2.2 ∈ TG := TG_in (List.mem_append_right _ (List.mem_of_getElem? (i := 25) (by decide +kernel))) (by decide +kernel)
abbrev mX4_init : MD := (yX4_init, cX4_init, 1, none)
theorem kcX4_init : Cond.code mX4_init.1 mX4_init.2.1 mX4_init.2.2.1 mX4_init.2.2.2 ∈ TG := TG_in (List.mem_append_right _ (List.mem_of_getElem? (i := 42) (by decide +kernel))) (by decide +kernel)
abbrev mX5_init : MD := (yX5_init, cX5_init, 1, none)
theorem kcX5_init : Cond.code mX5_init.1 mX5_init.2.1 mX5_init.2.2.1 mX5_init.2.2.2 ∈ TG := TG_in (List.mem_append_right _ (List.mem_of_getElem? (i := 64) (by decide +kernel))) (by decide +kernel)
abbrev mX0_init : MD := (yX0_init, cX0_init, 2, none)
theorem kcX0_init : Cond.code mX0_init.1 mX0_init.2.1 mX0_init.2.2.1 mX0_init.2.2.2 ∈ TG := TG_in (List.mem_append_right _ (List.mem_of_getElem? (i := 81) (by decide +kernel))) (by decide +kernel)
abbrev mX6_init : MD := (yX6_init, cX6_init, 1, none)
theorem kcX6_init : Cond.code mX6_init.1 mX6_init.2.1 mX6_init.2.2.1 mX6_init.2.2.2 ∈ TG := TG_in (List.mem_append_right _ (List.mem_of_getElem? (i := 88) (by decide +kernel))) (by decide +kernel)
abbrev mX2_init : MD := (yX2_init, cX2_init, 1, none)
theorem kcX2_init : Cond.code mX2_init.1 mX2_init.2.1 mX2_init.2.2.1 mX2_init.2.2.2 ∈ TG := TG_in (List.mem_append_right _ (List.mem_of_getElem? (i := 94) (by decide +kernel))) (by decide +kernel)
abbrev mX1_init : MD := (yX1_init, cX1_init, 1, none)
theorem kcX1_init : Cond.code mX1_init.1 mX1_init.2.1 mX1_init.2.2.1 mX1_init.2.2.2 ∈ TG := TG_in (List.mem_append_right _ (List.mem_of_getElem? (i := 115) (by decide +kernel))) (by decide +kernel)
abbrev mX3_init : MD := (yX3_init, cX3_init, 1, none)
theorem kcX3_init : Cond.code mX3_init.1 mX3_init.2.1 mX3_init.2.2.1 mX3_init.2.2.2 ∈ TG := TG_in (List.mem_append_right _ (List.mem_of_getElem? (i := 134) (by decide +kernel))) (by decide +kernel)
abbrev mX8_add : MD := (yX8_add, cX8_add, 4, (some .int))
theorem kcX8_add : Cond.code mX8_add.1 mX8_add.2.1 mX8_add.2.2.1 mX8_add.2.2.2 ∈ TG := TG_in (List.mem_append_right _ (List.mem_of_getElem? (i := 210) (by decide +kernel))) (by decide +kernel)
abbrev mX8_placeOrRoot : MD := (yX8_placeOrRoot, cX8_placeOrRoot, 2, (some .int))
theorem kcX8_placeOrRoot : Cond.code mX8_placeOrRoot.1 mX8_placeOrRoot.2.1 mX8_placeOrRoot.2.2.1 mX8_placeOrRoot.2.2.2 ∈ TG := TG_in (List.mem_append_right _ (List.mem_of_getElem? (i := 214) (by decide +kernel))) (by decide +kernel)
abbrev mX5_placeOf : MD := (yX5_placeOf, cX5_placeOf, 2, (some .int))
theorem kcX5_placeOf : Cond.code mX5_placeOf.1 mX5_placeOf.2.1 mX5_placeOf.2.2.1 mX5_placeOf.2.2.2 ∈ TG := TG_in (List.mem_append_right _ (List.mem_of_getElem? (i := 218) (by decide +kernel))) (by decide +kernel)
abbrev mX7_fitsNode : MD := (yX7_fitsNode, cX7_fitsNode, 1, (some .boolean))
theorem kcX7_fitsNode : Cond.code mX7_fitsNode.1 mX7_fitsNode.2.1 mX7_fitsNode.2.2.1 mX7_fitsNode.2.2.2 ∈ TG := TG_in (List.mem_append_right _ (List.mem_of_getElem? (i := 222) (by decide +kernel))) (by decide +kernel)
abbrev mX6_copyFrom : MD := (yX6_copyFrom, cX6_copyFrom, 2, none)
theorem kcX6_copyFrom : Cond.code mX6_copyFrom.1 mX6_copyFrom.2.1 mX6_copyFrom.2.2.1 mX6_copyFrom.2.2.2 ∈ TG := TG_in (List.mem_append_right _ (List.mem_of_getElem? (i := 226) (by decide +kernel))) (by decide +kernel)
abbrev mX2_copyFrom : MD := (yX2_copyFrom, cX2_copyFrom, 2, none)
theorem kcX2_copyFrom : Cond.code mX2_copyFrom.1 mX2_copyFrom.2.1 mX2_copyFrom.2.2.1 mX2_copyFrom.2.2.2 ∈ TG := TG_in (List.mem_append_right _ (List.mem_of_getElem? (i := 230) (by decide +kernel))) (by decide +kernel)
abbrev mX1_copyFrom : MD := (yX1_copyFrom, cX1_copyFrom, 2, none)
theorem kcX1_copyFrom : Cond.code mX1_copyFrom.1 mX1_copyFrom.2.1 mX1_copyFrom.2.2.1 mX1_copyFrom.2.2.2 ∈ TG := TG_in (List.mem_append_right _ (List.mem_of_getElem? (i := 237) (by decide +kernel))) (by decide +kernel)
abbrev mX3_copyFrom : MD := (yX3_copyFrom, cX3_copyFrom, 2, none)
theorem kcX3_copyFrom : Cond.code mX3_copyFrom.1 mX3_copyFrom.2.1 mX3_copyFrom.2.2.1 mX3_copyFrom.2.2.2 ∈ TG := TG_in (List.mem_append_right _ (List.mem_of_getElem? (i := 242) (by decide +kernel))) (by decide +kernel)
abbrev mX2_makeNode : MD := (yX2_makeNode, cX2_makeNode, 1, (some .int))
theorem kcX2_makeNode : Cond.code mX2_makeNode.1 mX2_makeNode.2.1 mX2_makeNode.2.2.1 mX2_makeNode.2.2.2 ∈ TG := TG_in (List.mem_append_right _ (List.mem_of_getElem? (i := 247) (by decide +kernel))) (by decide +kernel)
abbrev mX2_setText : MD := (yX2_setText, cX2_setText, 4, none)
theorem kcX2_setText : Cond.code mX2_setText.1 mX2_setText.2.1 mX2_setText.2.2.1 mX2_setText.2.2.2 ∈ TG := TG_in (List.mem_append_right _ (List.mem_of_getElem? (i := 251) (by decide +kernel))) (by decide +kernel)
abbrev mX2_isNumber : MD := (yX2_isNumber, cX2_isNumber, 1, (some .boolean))
theorem kcX2_isNumber : Cond.code mX2_isNumber.1 mX2_isNumber.2.1 mX2_isNumber.2.2.1 mX2_isNumber.2.2.2 ∈ TG := TG_in (List.mem_append_right _ (List.mem_of_getElem? (i := 254) (by decide +kernel))) (by decide +kernel)
abbrev mX7_codeAt : MD := (yX7_codeAt, cX7_codeAt, 2, (some .int))
theorem kcX7_codeAt : Cond.code mX7_codeAt.1 mX7_codeAt.2.1 mX7_codeAt.2.2.1 mX7_codeAt.2.2.2 ∈ TG := TG_in (List.mem_append_right _ (List.mem_of_getElem? (i := 259) (by decide +kernel))) (by decide +kernel)
abbrev mX3_nodeOf : MD := (yX3_nodeOf, cX3_nodeOf, 2, (some .int))
theorem kcX3_nodeOf : Cond.code mX3_nodeOf.1 mX3_nodeOf.2.1 mX3_nodeOf.2.2.1 mX3_nodeOf.2.2.2 ∈ TG := TG_in (List.mem_append_right _ (List.mem_of_getElem? (i := 263) (by decide +kernel))) (by decide +kernel)
abbrev mX3_isThere : MD := (yX3_isThere, cX3_isThere, 2, (some .boolean))
theorem kcX3_isThere : Cond.code mX3_isThere.1 mX3_isThere.2.1 mX3_isThere.2.2.1 mX3_isThere.2.2.2 ∈ TG := TG_in (List.mem_append_right _ (List.mem_of_getElem? (i := 267) (by decide +kernel))) (by decide +kernel)
abbrev mX8_attach : MD := (yX8_attach, cX8_attach, 3, (some .int))
theorem kcX8_attach : Cond.code mX8_attach.1 mX8_attach.2.1 mX8_attach.2.2.1 mX8_attach.2.2.2 ∈ TG := TG_in (List.mem_append_right _ (List.mem_of_getElem? (i := 271) (by decide +kernel))) (by decide +kernel)
abbrev mX1_append : MD := (yX1_append, cX1_append, 3, (some .boolean))
theorem kcX1_append : Cond.code mX1_append.1 mX1_append.2.1 mX1_append.2.2.1 mX1_append.2.2.2 ∈ TG := TG_in (List.mem_append_right _ (List.mem_of_getElem? (i := 275) (by decide +kernel))) (by decide +kernel)
abbrev mX6_placeAgain : MD := (yX6_placeAgain, cX6_placeAgain, 2, (some .boolean))
theorem kcX6_placeAgain : Cond.code mX6_placeAgain.1 mX6_placeAgain.2.1 mX6_placeAgain.2.2.1 mX6_placeAgain.2.2.2 ∈ TG := TG_in (List.mem_append_right _ (List.mem_of_getElem? (i := 279) (by decide +kernel))) (by decide +kernel)
abbrev mX6_grow : MD := (yX6_grow, cX6_grow, 11, (some .boolean))
theorem kcX6_grow : Cond.code mX6_grow.1 mX6_grow.2.1 mX6_grow.2.2.1 mX6_grow.2.2.2 ∈ TG := TG_in (List.mem_append_right _ (List.mem_of_getElem? (i := 282) (by decide +kernel))) (by decide +kernel)
abbrev mX3_childPlace : MD := (yX3_childPlace, cX3_childPlace, 5, (some .int))
theorem kcX3_childPlace : Cond.code mX3_childPlace.1 mX3_childPlace.2.1 mX3_childPlace.2.2.1 mX3_childPlace.2.2.2 ∈ TG := TG_in (List.mem_append_right _ (List.mem_of_getElem? (i := 287) (by decide +kernel))) (by decide +kernel)
abbrev mX3_levelOf : MD := (yX3_levelOf, cX3_levelOf, 2, (some .int))
theorem kcX3_levelOf : Cond.code mX3_levelOf.1 mX3_levelOf.2.1 mX3_levelOf.2.2.1 mX3_levelOf.2.2.2 ∈ TG := TG_in (List.mem_append_right _ (List.mem_of_getElem? (i := 291) (by decide +kernel))) (by decide +kernel)
abbrev mX3_foldOf : MD := (yX3_foldOf, cX3_foldOf, 2, (some .int))
theorem kcX3_foldOf : Cond.code mX3_foldOf.1 mX3_foldOf.2.1 mX3_foldOf.2.2.1 mX3_foldOf.2.2.2 ∈ TG := TG_in (List.mem_append_right _ (List.mem_of_getElem? (i := 295) (by decide +kernel))) (by decide +kernel)
abbrev mX3_append : MD := (yX3_append, cX3_append, 4, (some .int))
theorem kcX3_append : Cond.code mX3_append.1 mX3_append.2.1 mX3_append.2.2.1 mX3_append.2.2.2 ∈ TG := TG_in (List.mem_append_right _ (List.mem_of_getElem? (i := 299) (by decide +kernel))) (by decide +kernel)
abbrev mX8_accept : MD := (yX8_accept, cX8_accept, 2, none)
theorem kcX8_accept : Cond.code mX8_accept.1 mX8_accept.2.1 mX8_accept.2.2.1 mX8_accept.2.2.2 ∈ TG := TG_in (List.mem_append_right _ (List.mem_of_getElem? (i := 303) (by decide +kernel))) (by decide +kernel)
abbrev mX0_push : MD := (yX0_push, cX0_push, 2, none)
theorem kcX0_push : Cond.code mX0_push.1 mX0_push.2.1 mX0_push.2.2.1 mX0_push.2.2.2 ∈ TG := TG_in (List.mem_append_right _ (List.mem_of_getElem? (i := 307) (by decide +kernel))) (by decide +kernel)
abbrev mJ9_floorMod_7cf53 : MD := (yJ9_floorMod_7cf53, cJ9_floorMod_7cf53, 3, (some .int))
theorem kcJ9_floorMod_7cf53 : Cond.code mJ9_floorMod_7cf53.1 mJ9_floorMod_7cf53.2.1 mJ9_floorMod_7cf53.2.2.1 mJ9_floorMod_7cf53.2.2.2 ∈ TG := TG_in (List.mem_append_right _ (List.mem_of_getElem? (i := 310) (by decide +kernel))) (by decide +kernel)
abbrev mX5_refresh : MD := (yX5_refresh, cX5_refresh, 5, none)
theorem kcX5_refresh : Cond.code mX5_refresh.1 mX5_refresh.2.1 mX5_refresh.2.2.1 mX5_refresh.2.2.2 ∈ TG := TG_in (List.mem_append_right _ (List.mem_of_getElem? (i := 315) (by decide +kernel))) (by decide +kernel)
abbrev mX3_countOf : MD := (yX3_countOf, cX3_countOf, 4, (some .int))
theorem kcX3_countOf : Cond.code mX3_countOf.1 mX3_countOf.2.1 mX3_countOf.2.2.1 mX3_countOf.2.2.2 ∈ TG := TG_in (List.mem_append_right _ (List.mem_of_getElem? (i := 319) (by decide +kernel))) (by decide +kernel)
abbrev mX8_cut : MD := (yX8_cut, cX8_cut, 4, (some .int))
theorem kcX8_cut : Cond.code mX8_cut.1 mX8_cut.2.1 mX8_cut.2.2.1 mX8_cut.2.2.2 ∈ TG := TG_in (List.mem_append_right _ (List.mem_of_getElem? (i := 323) (by decide +kernel))) (by decide +kernel)
abbrev mX8_parentNodeOf : MD := (yX8_parentNodeOf, cX8_parentNodeOf, 2, (some .int))
theorem kcX8_parentNodeOf : Cond.code mX8_parentNodeOf.1 mX8_parentNodeOf.2.1 mX8_parentNodeOf.2.2.1 mX8_parentNodeOf.2.2.2 ∈ TG := TG_in (List.mem_append_right _ (List.mem_of_getElem? (i := 327) (by decide +kernel))) (by decide +kernel)
abbrev mX3_parentOf : MD := (yX3_parentOf, cX3_parentOf, 2, (some .int))
theorem kcX3_parentOf : Cond.code mX3_parentOf.1 mX3_parentOf.2.1 mX3_parentOf.2.2.1 mX3_parentOf.2.2.2 ∈ TG := TG_in (List.mem_append_right _ (List.mem_of_getElem? (i := 331) (by decide +kernel))) (by decide +kernel)
abbrev mX3_atLevel : MD := (yX3_atLevel, cX3_atLevel, 4, (some .int))
theorem kcX3_atLevel : Cond.code mX3_atLevel.1 mX3_atLevel.2.1 mX3_atLevel.2.2.1 mX3_atLevel.2.2.2 ∈ TG := TG_in (List.mem_append_right _ (List.mem_of_getElem? (i := 335) (by decide +kernel))) (by decide +kernel)
abbrev mJ9_min_7cf53 : MD := (yJ9_min_7cf53, cJ9_min_7cf53, 2, (some .int))
theorem kcJ9_min_7cf53 : Cond.code mJ9_min_7cf53.1 mJ9_min_7cf53.2.1 mJ9_min_7cf53.2.2.1 mJ9_min_7cf53.2.2.2 ∈ TG := TG_in (List.mem_append_right _ (List.mem_of_getElem? (i := 338) (by decide +kernel))) (by decide +kernel)
abbrev mX1_drop : MD := (yX1_drop, cX1_drop, 5, none)
theorem kcX1_drop : Cond.code mX1_drop.1 mX1_drop.2.1 mX1_drop.2.2.1 mX1_drop.2.2.2 ∈ TG := TG_in (List.mem_append_right _ (List.mem_of_getElem? (i := 342) (by decide +kernel))) (by decide +kernel)
abbrev mX1_indexOf : MD := (yX1_indexOf, cX1_indexOf, 4, (some .int))
theorem kcX1_indexOf : Cond.code mX1_indexOf.1 mX1_indexOf.2.1 mX1_indexOf.2.2.1 mX1_indexOf.2.2.2 ∈ TG := TG_in (List.mem_append_right _ (List.mem_of_getElem? (i := 346) (by decide +kernel))) (by decide +kernel)
abbrev mX3_nodeSet : MD := (yX3_nodeSet, cX3_nodeSet, 1, (some .long))
theorem kcX3_nodeSet : Cond.code mX3_nodeSet.1 mX3_nodeSet.2.1 mX3_nodeSet.2.2.1 mX3_nodeSet.2.2.2 ∈ TG := TG_in (List.mem_append_right _ (List.mem_of_getElem? (i := 350) (by decide +kernel))) (by decide +kernel)
abbrev mX3_nodesWithin : MD := (yX3_nodesWithin, cX3_nodesWithin, 6, (some .long))
theorem kcX3_nodesWithin : Cond.code mX3_nodesWithin.1 mX3_nodesWithin.2.1 mX3_nodesWithin.2.2.1 mX3_nodesWithin.2.2.2 ∈ TG := TG_in (List.mem_append_right _ (List.mem_of_getElem? (i := 354) (by decide +kernel))) (by decide +kernel)
abbrev mX3_endOf : MD := (yX3_endOf, cX3_endOf, 4, (some .int))
theorem kcX3_endOf : Cond.code mX3_endOf.1 mX3_endOf.2.1 mX3_endOf.2.2.1 mX3_endOf.2.2.2 ∈ TG := TG_in (List.mem_append_right _ (List.mem_of_getElem? (i := 358) (by decide +kernel))) (by decide +kernel)
abbrev mJ9_max_7cf53 : MD := (yJ9_max_7cf53, cJ9_max_7cf53, 2, (some .int))
theorem kcJ9_max_7cf53 : Cond.code mJ9_max_7cf53.1 mJ9_max_7cf53.2.1 mJ9_max_7cf53.2.2.1 mJ9_max_7cf53.2.2.2 ∈ TG := TG_in (List.mem_append_right _ (List.mem_of_getElem? (i := 361) (by decide +kernel))) (by decide +kernel)
abbrev mX6_dropVanished : MD := (yX6_dropVanished, cX6_dropVanished, 5, (some .int))
theorem kcX6_dropVanished : Cond.code mX6_dropVanished.1 mX6_dropVanished.2.1 mX6_dropVanished.2.2.1 mX6_dropVanished.2.2.2 ∈ TG := TG_in (List.mem_append_right _ (List.mem_of_getElem? (i := 365) (by decide +kernel))) (by decide +kernel)
abbrev mX1_keepParents : MD := (yX1_keepParents, cX1_keepParents, 5, none)
theorem kcX1_keepParents : Cond.code mX1_keepParents.1 mX1_keepParents.2.1 mX1_keepParents.2.2.1 mX1_keepParents.2.2.2 ∈ TG := TG_in (List.mem_append_right _ (List.mem_of_getElem? (i := 370) (by decide +kernel))) (by decide +kernel)
abbrev mJ13_bitCount_95d88 : MD := (yJ13_bitCount_95d88, cJ13_bitCount_95d88, 2, (some .int))
theorem kcJ13_bitCount_95d88 : Cond.code mJ13_bitCount_95d88.1 mJ13_bitCount_95d88.2.1 mJ13_bitCount_95d88.2.2.1 mJ13_bitCount_95d88.2.2.2 ∈ TG := TG_in (List.mem_append_right _ (List.mem_of_getElem? (i := 374) (by decide +kernel))) (by decide +kernel)
abbrev mX8_show : MD := (yX8_show, cX8_show, 3, (some .int))
theorem kcX8_show : Cond.code mX8_show.1 mX8_show.2.1 mX8_show.2.2.1 mX8_show.2.2.2 ∈ TG := TG_in (List.mem_append_right _ (List.mem_of_getElem? (i := 381) (by decide +kernel))) (by decide +kernel)
abbrev mX3_firstOf : MD := (yX3_firstOf, cX3_firstOf, 3, (some .int))
theorem kcX3_firstOf : Cond.code mX3_firstOf.1 mX3_firstOf.2.1 mX3_firstOf.2.2.1 mX3_firstOf.2.2.2 ∈ TG := TG_in (List.mem_append_right _ (List.mem_of_getElem? (i := 385) (by decide +kernel))) (by decide +kernel)
abbrev mX3_unfoldAround : MD := (yX3_unfoldAround, cX3_unfoldAround, 5, (some .boolean))
theorem kcX3_unfoldAround : Cond.code mX3_unfoldAround.1 mX3_unfoldAround.2.1 mX3_unfoldAround.2.2.1 mX3_unfoldAround.2.2.2 ∈ TG := TG_in (List.mem_append_right _ (List.mem_of_getElem? (i := 389) (by decide +kernel))) (by decide +kernel)
abbrev mX5_rowOf : MD := (yX5_rowOf, cX5_rowOf, 2, (some .int))
theorem kcX5_rowOf : Cond.code mX5_rowOf.1 mX5_rowOf.2.1 mX5_rowOf.2.2.1 mX5_rowOf.2.2.2 ∈ TG := TG_in (List.mem_append_right _ (List.mem_of_getElem? (i := 393) (by decide +kernel))) (by decide +kernel)
abbrev mX8_readOutline : MD := (yX8_readOutline, cX8_readOutline, 2, (some .int))
theorem kcX8_readOutline : Cond.code mX8_readOutline.1 mX8_readOutline.2.1 mX8_readOutline.2.2.1 mX8_readOutline.2.2.2 ∈ TG := TG_in (List.mem_append_right _ (List.mem_of_getElem? (i := 397) (by decide +kernel))) (by decide +kernel)
abbrev mX6_clearNodes : MD := (yX6_clearNodes, cX6_clearNodes, 1, none)
theorem kcX6_clearNodes : Cond.code mX6_clearNodes.1 mX6_clearNodes.2.1 mX6_clearNodes.2.2.1 mX6_clearNodes.2.2.2 ∈ TG := TG_in (List.mem_append_right _ (List.mem_of_getElem? (i := 401) (by decide +kernel))) (by decide +kernel)
abbrev mX4_read : MD := (yX4_read, cX4_read, 6, (some .int))
theorem kcX4_read : Cond.code mX4_read.1 mX4_read.2.1 mX4_read.2.2.1 mX4_read.2.2.2 ∈ TG := TG_in (List.mem_append_right _ (List.mem_of_getElem? (i := 405) (by decide +kernel))) (by decide +kernel)
abbrev mX4_begin : MD := (yX4_begin, cX4_begin, 2, none)
theorem kcX4_begin : Cond.code mX4_begin.1 mX4_begin.2.1 mX4_begin.2.2.1 mX4_begin.2.2.2 ∈ TG := TG_in (List.mem_append_right _ (List.mem_of_getElem? (i := 409) (by decide +kernel))) (by decide +kernel)
abbrev mX4_takeLetter : MD := (yX4_takeLetter, cX4_takeLetter, 6, (some .boolean))
theorem kcX4_takeLetter : Cond.code mX4_takeLetter.1 mX4_takeLetter.2.1 mX4_takeLetter.2.2.1 mX4_takeLetter.2.2.2 ∈ TG := TG_in (List.mem_append_right _ (List.mem_of_getElem? (i := 414) (by decide +kernel))) (by decide +kernel)
abbrev mX2_setLetter : MD := (yX2_setLetter, cX2_setLetter, 3, none)
theorem kcX2_setLetter : Cond.code mX2_setLetter.1 mX2_setLetter.2.1 mX2_setLetter.2.2.1 mX2_setLetter.2.2.2 ∈ TG := TG_in (List.mem_append_right _ (List.mem_of_getElem? (i := 419) (by decide +kernel))) (by decide +kernel)
abbrev mX4_isOpen : MD := (yX4_isOpen, cX4_isOpen, 3, (some .boolean))
theorem kcX4_isOpen : Cond.code mX4_isOpen.1 mX4_isOpen.2.1 mX4_isOpen.2.2.1 mX4_isOpen.2.2.2 ∈ TG := TG_in (List.mem_append_right _ (List.mem_of_getElem? (i := 423) (by decide +kernel))) (by decide +kernel)
abbrev mX4_takeSign : MD := (yX4_takeSign, cX4_takeSign, 2, (some .boolean))
theorem kcX4_takeSign : Cond.code mX4_takeSign.1 mX4_takeSign.2.1 mX4_takeSign.2.2.1 mX4_takeSign.2.2.2 ∈ TG := TG_in (List.mem_append_right _ (List.mem_of_getElem? (i := 429) (by decide +kernel))) (by decide +kernel)
abbrev mX6_placeAnew : MD := (yX6_placeAnew, cX6_placeAnew, 1, (some .boolean))
theorem kcX6_placeAnew : Cond.code mX6_placeAnew.1 mX6_placeAnew.2.1 mX6_placeAnew.2.2.1 mX6_placeAnew.2.2.2 ∈ TG := TG_in (List.mem_append_right _ (List.mem_of_getElem? (i := 433) (by decide +kernel))) (by decide +kernel)
abbrev mX8_undo : MD := (yX8_undo, cX8_undo, 1, (some .int))
theorem kcX8_undo : Cond.code mX8_undo.1 mX8_undo.2.1 mX8_undo.2.2.1 mX8_undo.2.2.2 ∈ TG := TG_in (List.mem_append_right _ (List.mem_of_getElem? (i := 437) (by decide +kernel))) (by decide +kernel)
abbrev mX0_popInto : MD := (yX0_popInto, cX0_popInto, 2, (some .boolean))
theorem kcX0_popInto : Cond.code mX0_popInto.1 mX0_popInto.2.1 mX0_popInto.2.2.1 mX0_popInto.2.2.2 ∈ TG := TG_in (List.mem_append_right _ (List.mem_of_getElem? (i := 441) (by decide +kernel))) (by decide +kernel)
abbrev mX8_restore : MD := (yX8_restore, cX8_restore, 1, (some .int))
theorem kcX8_restore : Cond.code mX8_restore.1 mX8_restore.2.1 mX8_restore.2.2.1 mX8_restore.2.2.2 ∈ TG := TG_in (List.mem_append_right _ (List.mem_of_getElem? (i := 445) (by decide +kernel))) (by decide +kernel)
abbrev mX8_nextMarked : MD := (yX8_nextMarked, cX8_nextMarked, 4, (some .int))
theorem kcX8_nextMarked : Cond.code mX8_nextMarked.1 mX8_nextMarked.2.1 mX8_nextMarked.2.2.1 mX8_nextMarked.2.2.2 ∈ TG := TG_in (List.mem_append_right _ (List.mem_of_getElem? (i := 449) (by decide +kernel))) (by decide +kernel)
abbrev mX8_isMark : MD := (yX8_isMark, cX8_isMark, 1, (some .boolean))
theorem kcX8_isMark : Cond.code mX8_isMark.1 mX8_isMark.2.1 mX8_isMark.2.2.1 mX8_isMark.2.2.2 ∈ TG := TG_in (List.mem_append_right _ (List.mem_of_getElem? (i := 452) (by decide +kernel))) (by decide +kernel)
abbrev mX8_nodeOfRow : MD := (yX8_nodeOfRow, cX8_nodeOfRow, 2, (some .int))
theorem kcX8_nodeOfRow : Cond.code mX8_nodeOfRow.1 mX8_nodeOfRow.2.1 mX8_nodeOfRow.2.2.1 mX8_nodeOfRow.2.2.2 ∈ TG := TG_in (List.mem_append_right _ (List.mem_of_getElem? (i := 456) (by decide +kernel))) (by decide +kernel)
abbrev mX2_marksOf : MD := (yX2_marksOf, cX2_marksOf, 2, (some .int))
theorem kcX2_marksOf : Cond.code mX2_marksOf.1 mX2_marksOf.2.1 mX2_marksOf.2.2.1 mX2_marksOf.2.2.2 ∈ TG := TG_in (List.mem_append_right _ (List.mem_of_getElem? (i := 460) (by decide +kernel))) (by decide +kernel)
abbrev mX8_count : MD := (yX8_count, cX8_count, 2, (some .int))
theorem kcX8_count : Cond.code mX8_count.1 mX8_count.2.1 mX8_count.2.2.1 mX8_count.2.2.2 ∈ TG := TG_in (List.mem_append_right _ (List.mem_of_getElem? (i := 464) (by decide +kernel))) (by decide +kernel)
abbrev mX3_foldedCount : MD := (yX3_foldedCount, cX3_foldedCount, 3, (some .int))
theorem kcX3_foldedCount : Cond.code mX3_foldedCount.1 mX3_foldedCount.2.1 mX3_foldedCount.2.2.1 mX3_foldedCount.2.2.2 ∈ TG := TG_in (List.mem_append_right _ (List.mem_of_getElem? (i := 469) (by decide +kernel))) (by decide +kernel)
abbrev mX1_sharedCount : MD := (yX1_sharedCount, cX1_sharedCount, 3, (some .int))
theorem kcX1_sharedCount : Cond.code mX1_sharedCount.1 mX1_sharedCount.2.1 mX1_sharedCount.2.2.1 mX1_sharedCount.2.2.2 ∈ TG := TG_in (List.mem_append_right _ (List.mem_of_getElem? (i := 473) (by decide +kernel))) (by decide +kernel)
abbrev mX1_parentCount : MD := (yX1_parentCount, cX1_parentCount, 4, (some .int))
theorem kcX1_parentCount : Cond.code mX1_parentCount.1 mX1_parentCount.2.1 mX1_parentCount.2.2.1 mX1_parentCount.2.2.2 ∈ TG := TG_in (List.mem_append_right _ (List.mem_of_getElem? (i := 477) (by decide +kernel))) (by decide +kernel)
abbrev mX3_greatestLevel : MD := (yX3_greatestLevel, cX3_greatestLevel, 3, (some .int))
theorem kcX3_greatestLevel : Cond.code mX3_greatestLevel.1 mX3_greatestLevel.2.1 mX3_greatestLevel.2.2.1 mX3_greatestLevel.2.2.2 ∈ TG := TG_in (List.mem_append_right _ (List.mem_of_getElem? (i := 481) (by decide +kernel))) (by decide +kernel)
abbrev mL_cell : MD := (yL_cell, cL_cell, 2, (some .int))
theorem kcL_cell : Cond.code mL_cell.1 mL_cell.2.1 mL_cell.2.2.1 mL_cell.2.2.2 ∈ TG := TG_in (List.mem_append_right _ (List.mem_of_getElem? (i := 484) (by decide +kernel))) (by decide +kernel)
abbrev mL_low : MD := (yL_low, cL_low, 2, (some .int))
theorem kcL_low : Cond.code mL_low.1 mL_low.2.1 mL_low.2.2.1 mL_low.2.2.2 ∈ TG := TG_in (List.mem_append_right _ (List.mem_of_getElem? (i := 488) (by decide +kernel))) (by decide +kernel)
abbrev mL_digest : MD := (yL_digest, cL_digest, 7, (some .long))
theorem kcL_digest : Cond.code mL_digest.1 mL_digest.2.1 mL_digest.2.2.1 mL_digest.2.2.2 ∈ TG := TG_in (List.mem_append_right _ (List.mem_of_getElem? (i := 492) (by decide +kernel))) (by decide +kernel)
abbrev mX8_row : MD := (yX8_row, cX8_row, 6, (some .int))
theorem kcX8_row : Cond.code mX8_row.1 mX8_row.2.1 mX8_row.2.2.1 mX8_row.2.2.2 ∈ TG := TG_in (List.mem_append_right _ (List.mem_of_getElem? (i := 499) (by decide +kernel))) (by decide +kernel)
abbrev mX8_positionAt : MD := (yX8_positionAt, cX8_positionAt, 2, (some .int))
theorem kcX8_positionAt : Cond.code mX8_positionAt.1 mX8_positionAt.2.1 mX8_positionAt.2.2.1 mX8_positionAt.2.2.2 ∈ TG := TG_in (List.mem_append_right _ (List.mem_of_getElem? (i := 504) (by decide +kernel))) (by decide +kernel)
abbrev mX1_position : MD := (yX1_position, cX1_position, 5, (some .int))
theorem kcX1_position : Cond.code mX1_position.1 mX1_position.2.1 mX1_position.2.2.1 mX1_position.2.2.2 ∈ TG := TG_in (List.mem_append_right _ (List.mem_of_getElem? (i := 508) (by decide +kernel))) (by decide +kernel)
abbrev mX1_childCount : MD := (yX1_childCount, cX1_childCount, 4, (some .int))
theorem kcX1_childCount : Cond.code mX1_childCount.1 mX1_childCount.2.1 mX1_childCount.2.2.1 mX1_childCount.2.2.2 ∈ TG := TG_in (List.mem_append_right _ (List.mem_of_getElem? (i := 512) (by decide +kernel))) (by decide +kernel)
abbrev mX8_parentRow : MD := (yX8_parentRow, cX8_parentRow, 3, (some .int))
theorem kcX8_parentRow : Cond.code mX8_parentRow.1 mX8_parentRow.2.1 mX8_parentRow.2.2.1 mX8_parentRow.2.2.2 ∈ TG := TG_in (List.mem_append_right _ (List.mem_of_getElem? (i := 517) (by decide +kernel))) (by decide +kernel)
abbrev mX5_seenBetween : MD := (yX5_seenBetween, cX5_seenBetween, 5, (some .int))
theorem kcX5_seenBetween : Cond.code mX5_seenBetween.1 mX5_seenBetween.2.1 mX5_seenBetween.2.2.1 mX5_seenBetween.2.2.2 ∈ TG := TG_in (List.mem_append_right _ (List.mem_of_getElem? (i := 522) (by decide +kernel))) (by decide +kernel)
abbrev mX8_node : MD := (yX8_node, cX8_node, 5, (some .int))
theorem kcX8_node : Cond.code mX8_node.1 mX8_node.2.1 mX8_node.2.2.1 mX8_node.2.2.2 ∈ TG := TG_in (List.mem_append_right _ (List.mem_of_getElem? (i := 528) (by decide +kernel))) (by decide +kernel)
abbrev mX5_seenOf : MD := (yX5_seenOf, cX5_seenOf, 5, (some .int))
theorem kcX5_seenOf : Cond.code mX5_seenOf.1 mX5_seenOf.2.1 mX5_seenOf.2.2.1 mX5_seenOf.2.2.2 ∈ TG := TG_in (List.mem_append_right _ (List.mem_of_getElem? (i := 533) (by decide +kernel))) (by decide +kernel)
abbrev mX5_firstOf : MD := (yX5_firstOf, cX5_firstOf, 4, (some .int))
theorem kcX5_firstOf : Cond.code mX5_firstOf.1 mX5_firstOf.2.1 mX5_firstOf.2.2.1 mX5_firstOf.2.2.2 ∈ TG := TG_in (List.mem_append_right _ (List.mem_of_getElem? (i := 538) (by decide +kernel))) (by decide +kernel)
abbrev mX2_lengthOf : MD := (yX2_lengthOf, cX2_lengthOf, 2, (some .int))
theorem kcX2_lengthOf : Cond.code mX2_lengthOf.1 mX2_lengthOf.2.1 mX2_lengthOf.2.2.1 mX2_lengthOf.2.2.2 ∈ TG := TG_in (List.mem_append_right _ (List.mem_of_getElem? (i := 542) (by decide +kernel))) (by decide +kernel)
abbrev mL_sound : MD := (yL_sound, cL_sound, 11, (some .boolean))
set_option maxRecDepth 100000 in
theorem kcL_sound : Cond.code mL_sound.1 mL_sound.2.1 mL_sound.2.2.1 mL_sound.2.2.2 ∈ TG := TG_in (List.mem_append_right _ (List.mem_of_getElem? (i := 546) rfl)) (by decide +kernel)
abbrev mX8_number : MD := (yX8_number, cX8_number, 4, (some .int))
theorem kcX8_number : Cond.code mX8_number.1 mX8_number.2.1 mX8_number.2.2.1 mX8_number.2.2.2 ∈ TG := TG_in (List.mem_append_right _ (List.mem_of_getElem? (i := 550) (by decide +kernel))) (by decide +kernel)
abbrev mX8_charAt : MD := (yX8_charAt, cX8_charAt, 5, (some .int))
theorem kcX8_charAt : Cond.code mX8_charAt.1 mX8_charAt.2.1 mX8_charAt.2.2.1 mX8_charAt.2.2.2 ∈ TG := TG_in (List.mem_append_right _ (List.mem_of_getElem? (i := 555) (by decide +kernel))) (by decide +kernel)
abbrev mX2_codeAt : MD := (yX2_codeAt, cX2_codeAt, 4, (some .int))
theorem kcX2_codeAt : Cond.code mX2_codeAt.1 mX2_codeAt.2.1 mX2_codeAt.2.2.1 mX2_codeAt.2.2.2 ∈ TG := TG_in (List.mem_append_right _ (List.mem_of_getElem? (i := 559) (by decide +kernel))) (by decide +kernel)
abbrev mL_nodes : MD := (yL_nodes, cL_nodes, 10, (some .boolean))
set_option maxRecDepth 100000 in
theorem kcL_nodes : Cond.code mL_nodes.1 mL_nodes.2.1 mL_nodes.2.2.1 mL_nodes.2.2.2 ∈ TG := TG_in (List.mem_append_right _ (List.mem_of_getElem? (i := 562) rfl)) (by decide +kernel)
abbrev mL_grows : MD := (yL_grows, cL_grows, 13, (some .boolean))
set_option maxRecDepth 100000 in
theorem kcL_grows : Cond.code mL_grows.1 mL_grows.2.1 mL_grows.2.2.1 mL_grows.2.2.2 ∈ TG := TG_in (List.mem_append_right _ (List.mem_of_getElem? (i := 565) rfl)) (by decide +kernel)
abbrev mL_texts : MD := (yL_texts, cL_texts, 4, (some .boolean))
theorem kcL_texts : Cond.code mL_texts.1 mL_texts.2.1 mL_texts.2.2.1 mL_texts.2.2.2 ∈ TG := TG_in (List.mem_append_right _ (List.mem_of_getElem? (i := 568) (by decide +kernel))) (by decide +kernel)
abbrev mX8_clearText : MD := (yX8_clearText, cX8_clearText, 2, (some .int))
theorem kcX8_clearText : Cond.code mX8_clearText.1 mX8_clearText.2.1 mX8_clearText.2.2.1 mX8_clearText.2.2.2 ∈ TG := TG_in (List.mem_append_right _ (List.mem_of_getElem? (i := 572) (by decide +kernel))) (by decide +kernel)
abbrev mX8_type : MD := (yX8_type, cX8_type, 2, (some .int))
theorem kcX8_type : Cond.code mX8_type.1 mX8_type.2.1 mX8_type.2.2.1 mX8_type.2.2.2 ∈ TG := TG_in (List.mem_append_right _ (List.mem_of_getElem? (i := 576) (by decide +kernel))) (by decide +kernel)
abbrev mX7_append : MD := (yX7_append, cX7_append, 2, (some .boolean))
theorem kcX7_append : Cond.code mX7_append.1 mX7_append.2.1 mX7_append.2.2.1 mX7_append.2.2.2 ∈ TG := TG_in (List.mem_append_right _ (List.mem_of_getElem? (i := 580) (by decide +kernel))) (by decide +kernel)
abbrev mX8_cloneTo : MD := (yX8_cloneTo, cX8_cloneTo, 4, (some .int))
theorem kcX8_cloneTo : Cond.code mX8_cloneTo.1 mX8_cloneTo.2.1 mX8_cloneTo.2.2.1 mX8_cloneTo.2.2.2 ∈ TG := TG_in (List.mem_append_right _ (List.mem_of_getElem? (i := 584) (by decide +kernel))) (by decide +kernel)
abbrev mX8_refusalOfParent : MD := (yX8_refusalOfParent, cX8_refusalOfParent, 9, (some .int))
theorem kcX8_refusalOfParent : Cond.code mX8_refusalOfParent.1 mX8_refusalOfParent.2.1 mX8_refusalOfParent.2.2.1 mX8_refusalOfParent.2.2.2 ∈ TG := TG_in (List.mem_append_right _ (List.mem_of_getElem? (i := 588) (by decide +kernel))) (by decide +kernel)
abbrev mX8_move : MD := (yX8_move, cX8_move, 5, (some .int))
theorem kcX8_move : Cond.code mX8_move.1 mX8_move.2.1 mX8_move.2.2.1 mX8_move.2.2.2 ∈ TG := TG_in (List.mem_append_right _ (List.mem_of_getElem? (i := 593) (by decide +kernel))) (by decide +kernel)
abbrev mL_changes : MD := (yL_changes, cL_changes, 13, (some .boolean))
set_option maxRecDepth 100000 in
theorem kcL_changes : Cond.code mL_changes.1 mL_changes.2.1 mL_changes.2.2.1 mL_changes.2.2.2 ∈ TG := TG_in (List.mem_append_right _ (List.mem_of_getElem? (i := 596) rfl)) (by decide +kernel)
abbrev mX8_shift : MD := (yX8_shift, cX8_shift, 7, (some .int))
theorem kcX8_shift : Cond.code mX8_shift.1 mX8_shift.2.1 mX8_shift.2.2.1 mX8_shift.2.2.2 ∈ TG := TG_in (List.mem_append_right _ (List.mem_of_getElem? (i := 600) (by decide +kernel))) (by decide +kernel)
abbrev mX1_shiftChild : MD := (yX1_shiftChild, cX1_shiftChild, 8, none)
theorem kcX1_shiftChild : Cond.code mX1_shiftChild.1 mX1_shiftChild.2.1 mX1_shiftChild.2.2.1 mX1_shiftChild.2.2.2 ∈ TG := TG_in (List.mem_append_right _ (List.mem_of_getElem? (i := 604) (by decide +kernel))) (by decide +kernel)
abbrev mJ9_abs_0f7a4 : MD := (yJ9_abs_0f7a4, cJ9_abs_0f7a4, 1, (some .int))
theorem kcJ9_abs_0f7a4 : Cond.code mJ9_abs_0f7a4.1 mJ9_abs_0f7a4.2.1 mJ9_abs_0f7a4.2.2.1 mJ9_abs_0f7a4.2.2.2 ∈ TG := TG_in (List.mem_append_right _ (List.mem_of_getElem? (i := 607) (by decide +kernel))) (by decide +kernel)
abbrev mX8_mark : MD := (yX8_mark, cX8_mark, 5, (some .int))
theorem kcX8_mark : Cond.code mX8_mark.1 mX8_mark.2.1 mX8_mark.2.2.1 mX8_mark.2.2.2 ∈ TG := TG_in (List.mem_append_right _ (List.mem_of_getElem? (i := 611) (by decide +kernel))) (by decide +kernel)
abbrev mX2_toggleMark : MD := (yX2_toggleMark, cX2_toggleMark, 3, none)
theorem kcX2_toggleMark : Cond.code mX2_toggleMark.1 mX2_toggleMark.2.1 mX2_toggleMark.2.2.1 mX2_toggleMark.2.2.2 ∈ TG := TG_in (List.mem_append_right _ (List.mem_of_getElem? (i := 615) (by decide +kernel))) (by decide +kernel)
abbrev mX8_fold : MD := (yX8_fold, cX8_fold, 5, (some .int))
theorem kcX8_fold : Cond.code mX8_fold.1 mX8_fold.2.1 mX8_fold.2.2.1 mX8_fold.2.2.2 ∈ TG := TG_in (List.mem_append_right _ (List.mem_of_getElem? (i := 620) (by decide +kernel))) (by decide +kernel)
abbrev mX3_hasChildren : MD := (yX3_hasChildren, cX3_hasChildren, 2, (some .boolean))
theorem kcX3_hasChildren : Cond.code mX3_hasChildren.1 mX3_hasChildren.2.1 mX3_hasChildren.2.2.1 mX3_hasChildren.2.2.2 ∈ TG := TG_in (List.mem_append_right _ (List.mem_of_getElem? (i := 624) (by decide +kernel))) (by decide +kernel)
abbrev mX3_setFold : MD := (yX3_setFold, cX3_setFold, 3, none)
theorem kcX3_setFold : Cond.code mX3_setFold.1 mX3_setFold.2.1 mX3_setFold.2.2.1 mX3_setFold.2.2.2 ∈ TG := TG_in (List.mem_append_right _ (List.mem_of_getElem? (i := 628) (by decide +kernel))) (by decide +kernel)
abbrev mX8_edit : MD := (yX8_edit, cX8_edit, 4, (some .int))
theorem kcX8_edit : Cond.code mX8_edit.1 mX8_edit.2.1 mX8_edit.2.2.1 mX8_edit.2.2.2 ∈ TG := TG_in (List.mem_append_right _ (List.mem_of_getElem? (i := 632) (by decide +kernel))) (by decide +kernel)
abbrev mX2_hasText : MD := (yX2_hasText, cX2_hasText, 4, (some .boolean))
theorem kcX2_hasText : Cond.code mX2_hasText.1 mX2_hasText.2.1 mX2_hasText.2.2.1 mX2_hasText.2.2.2 ∈ TG := TG_in (List.mem_append_right _ (List.mem_of_getElem? (i := 636) (by decide +kernel))) (by decide +kernel)
abbrev mX8_find : MD := (yX8_find, cX8_find, 3, (some .int))
theorem kcX8_find : Cond.code mX8_find.1 mX8_find.2.1 mX8_find.2.2.1 mX8_find.2.2.2 ∈ TG := TG_in (List.mem_append_right _ (List.mem_of_getElem? (i := 642) (by decide +kernel))) (by decide +kernel)
abbrev mX8_foldLevel : MD := (yX8_foldLevel, cX8_foldLevel, 2, (some .int))
theorem kcX8_foldLevel : Cond.code mX8_foldLevel.1 mX8_foldLevel.2.1 mX8_foldLevel.2.2.1 mX8_foldLevel.2.2.2 ∈ TG := TG_in (List.mem_append_right _ (List.mem_of_getElem? (i := 646) (by decide +kernel))) (by decide +kernel)
abbrev mX3_foldAtLevel : MD := (yX3_foldAtLevel, cX3_foldAtLevel, 6, (some .boolean))
theorem kcX3_foldAtLevel : Cond.code mX3_foldAtLevel.1 mX3_foldAtLevel.2.1 mX3_foldAtLevel.2.2.1 mX3_foldAtLevel.2.2.2 ∈ TG := TG_in (List.mem_append_right _ (List.mem_of_getElem? (i := 650) (by decide +kernel))) (by decide +kernel)
