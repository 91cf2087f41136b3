theorem wX0_tbl : ∀ w ∈ u_ws RX0 TX0 3, w ∈ lw_tbl := by decide +kernel
theorem wX0_good : (u_ws RX0 TX0 3).all xgood = true := by decide +kernel
theorem wX0_in : ∀ w ∈ u_ws RX0 TX0 3, w ∈ TG := fun w hw => TG_in (wX0_tbl w hw) (List.all_eq_true.mp wX0_good w hw)
theorem wX1_tbl : ∀ w ∈ u_ws RX1 TX1 3, w ∈ lw_tbl := by decide +kernel
theorem wX1_good : (u_ws RX1 TX1 3).all xgood = true := by decide +kernel
theorem wX1_in : ∀ w ∈ u_ws RX1 TX1 3, w ∈ TG := fun w hw => TG_in (wX1_tbl w hw) (List.all_eq_true.mp wX1_good w hw)
theorem wX2_tbl : ∀ w ∈ u_ws RX2 TX2 4, w ∈ lw_tbl := by decide +kernel
theorem wX2_good : (u_ws RX2 TX2 4).all xgood = true := by decide +kernel
theorem wX2_in : ∀ w ∈ u_ws RX2 TX2 4, w ∈ TG := fun w hw => TG_in (wX2_tbl w hw) (List.all_eq_true.mp wX2_good w hw)
theorem wX3_tbl : ∀ w ∈ u_ws RX3 TX3 4, w ∈ lw_tbl := by decide +kernel
theorem wX3_good : (u_ws RX3 TX3 4).all xgood = true := by decide +kernel
theorem wX3_in : ∀ w ∈ u_ws RX3 TX3 4, w ∈ TG := fun w hw => TG_in (wX3_tbl w hw) (List.all_eq_true.mp wX3_good w hw)
theorem wX4_tbl : ∀ w ∈ u_ws RX4 TX4 5, w ∈ lw_tbl := by decide +kernel
theorem wX4_good : (u_ws RX4 TX4 5).all xgood = true := by decide +kernel
theorem wX4_in : ∀ w ∈ u_ws RX4 TX4 5, w ∈ TG := fun w hw => TG_in (wX4_tbl w hw) (List.all_eq_true.mp wX4_good w hw)
theorem wX5_tbl : ∀ w ∈ u_ws RX5 TX5 3, w ∈ lw_tbl := by decide +kernel
theorem wX5_good : (u_ws RX5 TX5 3).all xgood = true := by decide +kernel
theorem wX5_in : ∀ w ∈ u_ws RX5 TX5 3, w ∈ TG := fun w hw => TG_in (wX5_tbl w hw) (List.all_eq_true.mp wX5_good w hw)
theorem wX6_tbl : ∀ w ∈ u_ws RX6 TX6 3, w ∈ lw_tbl := by decide +kernel
theorem wX6_good : (u_ws RX6 TX6 3).all xgood = true := by decide +kernel
theorem wX6_in : ∀ w ∈ u_ws RX6 TX6 3, w ∈ TG := fun w hw => TG_in (wX6_tbl w hw) (List.all_eq_true.mp wX6_good w hw)
theorem wX7_tbl : ∀ w ∈ u_ws RX7 TX7 2, w ∈ lw_tbl := by decide +kernel
theorem wX7_good : (u_ws RX7 TX7 2).all xgood = true := by decide +kernel
theorem wX7_in : ∀ w ∈ u_ws RX7 TX7 2, w ∈ TG := fun w hw => TG_in (wX7_tbl w hw) (List.all_eq_true.mp wX7_good w hw)
theorem wX8_tbl : ∀ w ∈ u_ws RX8 TX8 8, w ∈ lw_tbl := by decide +kernel
theorem wX8_good : (u_ws RX8 TX8 8).all xgood = true := by decide +kernel
theorem wX8_in : ∀ w ∈ u_ws RX8 TX8 8, w ∈ TG := fun w hw => TG_in (wX8_tbl w hw) (List.all_eq_true.mp wX8_good w hw)
theorem wX9_tbl : ∀ w ∈ u_ws RX9 TX9 20, w ∈ lw_tbl := by decide +kernel
theorem wX9_good : (u_ws RX9 TX9 20).all xgood = true := by decide +kernel
theorem wX9_in : ∀ w ∈ u_ws RX9 TX9 20, w ∈ TG := fun w hw => TG_in (wX9_tbl w hw) (List.all_eq_true.mp wX9_good w hw)
theorem fX7_9 : FA RX7 9 7 0 true (.array .int) := ⟨RX7, TX7, 2, tyX7, rfl, by decide, TG_in (List.mem_append_right _ (List.mem_of_getElem? (i := 28) (by decide +kernel))) (by decide +kernel), rfl, rfl, tyX7_ok 0 (by decide), wX7_in, tyX7_ok, nmX7⟩
theorem fX7_15 : FA RX7 15 7 1 false .int := ⟨RX7, TX7, 2, tyX7, rfl, by decide, TG_in (List.mem_append_right _ (List.mem_of_getElem? (i := 29) (by decide +kernel))) (by decide +kernel), rfl, rfl, tyX7_ok 1 (by decide), wX7_in, tyX7_ok, nmX7⟩
theorem fX4_21 : FA RX4 21 7 1 false .int := ⟨RX7, TX7, 2, tyX7, rfl, by decide, TG_in (List.mem_append_right _ (List.mem_of_getElem? (i := 30) (by decide +kernel))) (by decide +kernel), rfl, rfl, tyX7_ok 1 (by decide), wX7_in, tyX7_ok, nmX7⟩
theorem fX2_41 : FA RX2 41 7 1 false .int := ⟨RX7, TX7, 2, tyX7, rfl, by decide, TG_in (List.mem_append_right _ (List.mem_of_getElem? (i := 31) (by decide +kernel))) (by decide +kernel), rfl, rfl, tyX7_ok 1 (by decide), wX7_in, tyX7_ok, nmX7⟩
theorem fX8_189 : FA RX8 189 7 1 false .int := ⟨RX7, TX7, 2, tyX7, rfl, by decide, TG_in (List.mem_append_right _ (List.mem_of_getElem? (i := 32) (by decide +kernel))) (by decide +kernel), rfl, rfl, tyX7_ok 1 (by decide), wX7_in, tyX7_ok, nmX7⟩
theorem fX4_9 : FA RX4 9 4 0 true (.array .int) := ⟨RX4, TX4, 5, tyX4, rfl, by decide, TG_in (List.mem_append_right _ (List.mem_of_getElem? (i := 45) (by decide +kernel))) (by decide +kernel), rfl, rfl, tyX4_ok 0 (by decide), wX4_in, tyX4_ok, nmX4⟩
theorem fX4_15 : FA RX4 15 4 1 true (.array .int) := ⟨RX4, TX4, 5, tyX4, rfl, by decide, TG_in (List.mem_append_right _ (List.mem_of_getElem? (i := 46) (by decide +kernel))) (by decide +kernel), rfl, rfl, tyX4_ok 1 (by decide), wX4_in, tyX4_ok, nmX4⟩
theorem fX4_43 : FA RX4 43 4 2 false .int := ⟨RX4, TX4, 5, tyX4, rfl, by decide, TG_in (List.mem_append_right _ (List.mem_of_getElem? (i := 47) (by decide +kernel))) (by decide +kernel), rfl, rfl, tyX4_ok 2 (by decide), wX4_in, tyX4_ok, nmX4⟩
theorem fX4_31 : FA RX4 31 4 3 false .boolean := ⟨RX4, TX4, 5, tyX4, rfl, by decide, TG_in (List.mem_append_right _ (List.mem_of_getElem? (i := 48) (by decide +kernel))) (by decide +kernel), rfl, rfl, tyX4_ok 3 (by decide), wX4_in, tyX4_ok, nmX4⟩
theorem fX4_46 : FA RX4 46 4 4 false .int := ⟨RX4, TX4, 5, tyX4, rfl, by decide, TG_in (List.mem_append_right _ (List.mem_of_getElem? (i := 49) (by decide +kernel))) (by decide +kernel), rfl, rfl, tyX4_ok 4 (by decide), wX4_in, tyX4_ok, nmX4⟩
theorem fX5_9 : FA RX5 9 5 0 true (.array .int) := ⟨RX5, TX5, 3, tyX5, rfl, by decide, TG_in (List.mem_append_right _ (List.mem_of_getElem? (i := 67) (by decide +kernel))) (by decide +kernel), rfl, rfl, tyX5_ok 0 (by decide), wX5_in, tyX5_ok, nmX5⟩
theorem fX5_15 : FA RX5 15 5 1 true (.array .int) := ⟨RX5, TX5, 3, tyX5, rfl, by decide, TG_in (List.mem_append_right _ (List.mem_of_getElem? (i := 68) (by decide +kernel))) (by decide +kernel), rfl, rfl, tyX5_ok 1 (by decide), wX5_in, tyX5_ok, nmX5⟩
theorem fX5_18 : FA RX5 18 5 2 false .int := ⟨RX5, TX5, 3, tyX5, rfl, by decide, TG_in (List.mem_append_right _ (List.mem_of_getElem? (i := 69) (by decide +kernel))) (by decide +kernel), rfl, rfl, tyX5_ok 2 (by decide), wX5_in, tyX5_ok, nmX5⟩
theorem fX8_170 : FA RX8 170 5 2 false .int := ⟨RX5, TX5, 3, tyX5, rfl, by decide, TG_in (List.mem_append_right _ (List.mem_of_getElem? (i := 70) (by decide +kernel))) (by decide +kernel), rfl, rfl, tyX5_ok 2 (by decide), wX5_in, tyX5_ok, nmX5⟩
theorem fX2_9 : FA RX2 9 2 0 true (.array .int) := ⟨RX2, TX2, 4, tyX2, rfl, by decide, TG_in (List.mem_append_right _ (List.mem_of_getElem? (i := 97) (by decide +kernel))) (by decide +kernel), rfl, rfl, tyX2_ok 0 (by decide), wX2_in, tyX2_ok, nmX2⟩
theorem fX2_15 : FA RX2 15 2 1 true (.array .int) := ⟨RX2, TX2, 4, tyX2, rfl, by decide, TG_in (List.mem_append_right _ (List.mem_of_getElem? (i := 98) (by decide +kernel))) (by decide +kernel), rfl, rfl, tyX2_ok 1 (by decide), wX2_in, tyX2_ok, nmX2⟩
theorem fX2_18 : FA RX2 18 2 2 true (.array .int) := ⟨RX2, TX2, 4, tyX2, rfl, by decide, TG_in (List.mem_append_right _ (List.mem_of_getElem? (i := 99) (by decide +kernel))) (by decide +kernel), rfl, rfl, tyX2_ok 2 (by decide), wX2_in, tyX2_ok, nmX2⟩
theorem fX2_21 : FA RX2 21 2 3 false .int := ⟨RX2, TX2, 4, tyX2, rfl, by decide, TG_in (List.mem_append_right _ (List.mem_of_getElem? (i := 100) (by decide +kernel))) (by decide +kernel), rfl, rfl, tyX2_ok 3 (by decide), wX2_in, tyX2_ok, nmX2⟩
theorem fX8_66 : FA RX8 66 2 3 false .int := ⟨RX2, TX2, 4, tyX2, rfl, by decide, TG_in (List.mem_append_right _ (List.mem_of_getElem? (i := 101) (by decide +kernel))) (by decide +kernel), rfl, rfl, tyX2_ok 3 (by decide), wX2_in, tyX2_ok, nmX2⟩
theorem fX6_42 : FA RX6 42 2 3 false .int := ⟨RX2, TX2, 4, tyX2, rfl, by decide, TG_in (List.mem_append_right _ (List.mem_of_getElem? (i := 102) (by decide +kernel))) (by decide +kernel), rfl, rfl, tyX2_ok 3 (by decide), wX2_in, tyX2_ok, nmX2⟩
theorem fX1_9 : FA RX1 9 1 0 true (.array .int) := ⟨RX1, TX1, 3, tyX1, rfl, by decide, TG_in (List.mem_append_right _ (List.mem_of_getElem? (i := 118) (by decide +kernel))) (by decide +kernel), rfl, rfl, tyX1_ok 0 (by decide), wX1_in, tyX1_ok, nmX1⟩
theorem fX6_58 : FA RX6 58 1 0 true (.array .int) := ⟨RX1, TX1, 3, tyX1, rfl, by decide, TG_in (List.mem_append_right _ (List.mem_of_getElem? (i := 119) (by decide +kernel))) (by decide +kernel), rfl, rfl, tyX1_ok 0 (by decide), wX1_in, tyX1_ok, nmX1⟩
theorem fX1_15 : FA RX1 15 1 1 true (.array .int) := ⟨RX1, TX1, 3, tyX1, rfl, by decide, TG_in (List.mem_append_right _ (List.mem_of_getElem? (i := 120) (by decide +kernel))) (by decide +kernel), rfl, rfl, tyX1_ok 1 (by decide), wX1_in, tyX1_ok, nmX1⟩
theorem fX6_62 : FA RX6 62 1 1 true (.array .int) := ⟨RX1, TX1, 3, tyX1, rfl, by decide, TG_in (List.mem_append_right _ (List.mem_of_getElem? (i := 121) (by decide +kernel))) (by decide +kernel), rfl, rfl, tyX1_ok 1 (by decide), wX1_in, tyX1_ok, nmX1⟩
theorem fX1_18 : FA RX1 18 1 2 false .int := ⟨RX1, TX1, 3, tyX1, rfl, by decide, TG_in (List.mem_append_right _ (List.mem_of_getElem? (i := 122) (by decide +kernel))) (by decide +kernel), rfl, rfl, tyX1_ok 2 (by decide), wX1_in, tyX1_ok, nmX1⟩
theorem fX6_46 : FA RX6 46 1 2 false .int := ⟨RX1, TX1, 3, tyX1, rfl, by decide, TG_in (List.mem_append_right _ (List.mem_of_getElem? (i := 123) (by decide +kernel))) (by decide +kernel), rfl, rfl, tyX1_ok 2 (by decide), wX1_in, tyX1_ok, nmX1⟩
theorem fX3_9 : FA RX3 9 3 0 true (.array .int) := ⟨RX3, TX3, 4, tyX3, rfl, by decide, TG_in (List.mem_append_right _ (List.mem_of_getElem? (i := 137) (by decide +kernel))) (by decide +kernel), rfl, rfl, tyX3_ok 0 (by decide), wX3_in, tyX3_ok, nmX3⟩
theorem fX3_15 : FA RX3 15 3 1 true (.array .int) := ⟨RX3, TX3, 4, tyX3, rfl, by decide, TG_in (List.mem_append_right _ (List.mem_of_getElem? (i := 138) (by decide +kernel))) (by decide +kernel), rfl, rfl, tyX3_ok 1 (by decide), wX3_in, tyX3_ok, nmX3⟩
theorem fX5_25 : FA RX5 25 3 1 true (.array .int) := ⟨RX3, TX3, 4, tyX3, rfl, by decide, TG_in (List.mem_append_right _ (List.mem_of_getElem? (i := 139) (by decide +kernel))) (by decide +kernel), rfl, rfl, tyX3_ok 1 (by decide), wX3_in, tyX3_ok, nmX3⟩
theorem fX3_18 : FA RX3 18 3 2 true (.array .int) := ⟨RX3, TX3, 4, tyX3, rfl, by decide, TG_in (List.mem_append_right _ (List.mem_of_getElem? (i := 140) (by decide +kernel))) (by decide +kernel), rfl, rfl, tyX3_ok 2 (by decide), wX3_in, tyX3_ok, nmX3⟩
theorem fX5_28 : FA RX5 28 3 2 true (.array .int) := ⟨RX3, TX3, 4, tyX3, rfl, by decide, TG_in (List.mem_append_right _ (List.mem_of_getElem? (i := 141) (by decide +kernel))) (by decide +kernel), rfl, rfl, tyX3_ok 2 (by decide), wX3_in, tyX3_ok, nmX3⟩
theorem fX3_21 : FA RX3 21 3 3 false .int := ⟨RX3, TX3, 4, tyX3, rfl, by decide, TG_in (List.mem_append_right _ (List.mem_of_getElem? (i := 142) (by decide +kernel))) (by decide +kernel), rfl, rfl, tyX3_ok 3 (by decide), wX3_in, tyX3_ok, nmX3⟩
theorem fX5_22 : FA RX5 22 3 3 false .int := ⟨RX3, TX3, 4, tyX3, rfl, by decide, TG_in (List.mem_append_right _ (List.mem_of_getElem? (i := 143) (by decide +kernel))) (by decide +kernel), rfl, rfl, tyX3_ok 3 (by decide), wX3_in, tyX3_ok, nmX3⟩
theorem fX6_49 : FA RX6 49 3 3 false .int := ⟨RX3, TX3, 4, tyX3, rfl, by decide, TG_in (List.mem_append_right _ (List.mem_of_getElem? (i := 144) (by decide +kernel))) (by decide +kernel), rfl, rfl, tyX3_ok 3 (by decide), wX3_in, tyX3_ok, nmX3⟩
theorem fX8_202 : FA RX8 202 3 3 false .int := ⟨RX3, TX3, 4, tyX3, rfl, by decide, TG_in (List.mem_append_right _ (List.mem_of_getElem? (i := 145) (by decide +kernel))) (by decide +kernel), rfl, rfl, tyX3_ok 3 (by decide), wX3_in, tyX3_ok, nmX3⟩
theorem fX6_12 : FA RX6 12 6 0 true (.object "CloneOutline$Nodes") := ⟨RX6, TX6, 3, tyX6, rfl, by decide, TG_in (List.mem_append_right _ (List.mem_of_getElem? (i := 155) (by decide +kernel))) (by decide +kernel), rfl, rfl, tyX6_ok 0 (by decide), wX6_in, tyX6_ok, nmX6⟩
theorem fX8_62 : FA RX8 62 6 0 true (.object "CloneOutline$Nodes") := ⟨RX6, TX6, 3, tyX6, rfl, by decide, TG_in (List.mem_append_right _ (List.mem_of_getElem? (i := 156) (by decide +kernel))) (by decide +kernel), rfl, rfl, tyX6_ok 0 (by decide), wX6_in, tyX6_ok, nmX6⟩
theorem fX4_49 : FA RX4 49 6 0 true (.object "CloneOutline$Nodes") := ⟨RX6, TX6, 3, tyX6, rfl, by decide, TG_in (List.mem_append_right _ (List.mem_of_getElem? (i := 157) (by decide +kernel))) (by decide +kernel), rfl, rfl, tyX6_ok 0 (by decide), wX6_in, tyX6_ok, nmX6⟩
theorem fX6_21 : FA RX6 21 6 1 true (.object "CloneOutline$Links") := ⟨RX6, TX6, 3, tyX6, rfl, by decide, TG_in (List.mem_append_right _ (List.mem_of_getElem? (i := 158) (by decide +kernel))) (by decide +kernel), rfl, rfl, tyX6_ok 1 (by decide), wX6_in, tyX6_ok, nmX6⟩
theorem fX8_103 : FA RX8 103 6 1 true (.object "CloneOutline$Links") := ⟨RX6, TX6, 3, tyX6, rfl, by decide, TG_in (List.mem_append_right _ (List.mem_of_getElem? (i := 159) (by decide +kernel))) (by decide +kernel), rfl, rfl, tyX6_ok 1 (by decide), wX6_in, tyX6_ok, nmX6⟩
theorem fX4_68 : FA RX4 68 6 1 true (.object "CloneOutline$Links") := ⟨RX6, TX6, 3, tyX6, rfl, by decide, TG_in (List.mem_append_right _ (List.mem_of_getElem? (i := 160) (by decide +kernel))) (by decide +kernel), rfl, rfl, tyX6_ok 1 (by decide), wX6_in, tyX6_ok, nmX6⟩
theorem fX6_28 : FA RX6 28 6 2 true (.object "CloneOutline$Places") := ⟨RX6, TX6, 3, tyX6, rfl, by decide, TG_in (List.mem_append_right _ (List.mem_of_getElem? (i := 161) (by decide +kernel))) (by decide +kernel), rfl, rfl, tyX6_ok 2 (by decide), wX6_in, tyX6_ok, nmX6⟩
theorem fX8_84 : FA RX8 84 6 2 true (.object "CloneOutline$Places") := ⟨RX6, TX6, 3, tyX6, rfl, by decide, TG_in (List.mem_append_right _ (List.mem_of_getElem? (i := 162) (by decide +kernel))) (by decide +kernel), rfl, rfl, tyX6_ok 2 (by decide), wX6_in, tyX6_ok, nmX6⟩
theorem fX0_11 : FA RX0 11 0 0 true (.array (.object "CloneOutline$State")) := ⟨RX0, TX0, 3, tyX0, rfl, by decide, TG_in (List.mem_append_right _ (List.mem_of_getElem? (i := 170) (by decide +kernel))) (by decide +kernel), rfl, rfl, tyX0_ok 0 (by decide), wX0_in, tyX0_ok, nmX0⟩
theorem fX0_22 : FA RX0 22 0 1 false .int := ⟨RX0, TX0, 3, tyX0, rfl, by decide, TG_in (List.mem_append_right _ (List.mem_of_getElem? (i := 171) (by decide +kernel))) (by decide +kernel), rfl, rfl, tyX0_ok 1 (by decide), wX0_in, tyX0_ok, nmX0⟩
theorem fX0_18 : FA RX0 18 0 2 false .int := ⟨RX0, TX0, 3, tyX0, rfl, by decide, TG_in (List.mem_append_right _ (List.mem_of_getElem? (i := 172) (by decide +kernel))) (by decide +kernel), rfl, rfl, tyX0_ok 2 (by decide), wX0_in, tyX0_ok, nmX0⟩
theorem fX8_211 : FA RX8 211 0 2 false .int := ⟨RX0, TX0, 3, tyX0, rfl, by decide, TG_in (List.mem_append_right _ (List.mem_of_getElem? (i := 173) (by decide +kernel))) (by decide +kernel), rfl, rfl, tyX0_ok 2 (by decide), wX0_in, tyX0_ok, nmX0⟩
theorem fX8_10 : FA RX8 10 8 0 true (.object "CloneOutline$Typed") := ⟨RX8, TX8, 8, tyX8, rfl, by decide, TG_in (List.mem_append_right _ (List.mem_of_getElem? (i := 183) (by decide +kernel))) (by decide +kernel), rfl, rfl, tyX8_ok 0 (by decide), wX8_in, tyX8_ok, nmX8⟩
theorem fX8_19 : FA RX8 19 8 1 true (.object "CloneOutline$Reader") := ⟨RX8, TX8, 8, tyX8, rfl, by decide, TG_in (List.mem_append_right _ (List.mem_of_getElem? (i := 184) (by decide +kernel))) (by decide +kernel), rfl, rfl, tyX8_ok 1 (by decide), wX8_in, tyX8_ok, nmX8⟩
theorem fX8_26 : FA RX8 26 8 2 true (.object "CloneOutline$Rows") := ⟨RX8, TX8, 8, tyX8, rfl, by decide, TG_in (List.mem_append_right _ (List.mem_of_getElem? (i := 185) (by decide +kernel))) (by decide +kernel), rfl, rfl, tyX8_ok 2 (by decide), wX8_in, tyX8_ok, nmX8⟩
theorem fX8_33 : FA RX8 33 8 3 true (.object "CloneOutline$History") := ⟨RX8, TX8, 8, tyX8, rfl, by decide, TG_in (List.mem_append_right _ (List.mem_of_getElem? (i := 186) (by decide +kernel))) (by decide +kernel), rfl, rfl, tyX8_ok 3 (by decide), wX8_in, tyX8_ok, nmX8⟩
theorem fX8_40 : FA RX8 40 8 4 true (.object "CloneOutline$State") := ⟨RX8, TX8, 8, tyX8, rfl, by decide, TG_in (List.mem_append_right _ (List.mem_of_getElem? (i := 187) (by decide +kernel))) (by decide +kernel), rfl, rfl, tyX8_ok 4 (by decide), wX8_in, tyX8_ok, nmX8⟩
theorem fX8_44 : FA RX8 44 8 5 false .boolean := ⟨RX8, TX8, 8, tyX8, rfl, by decide, TG_in (List.mem_append_right _ (List.mem_of_getElem? (i := 188) (by decide +kernel))) (by decide +kernel), rfl, rfl, tyX8_ok 5 (by decide), wX8_in, tyX8_ok, nmX8⟩
theorem fX8_48 : FA RX8 48 8 6 false (.object "CloneOutline$State") := ⟨RX8, TX8, 8, tyX8, rfl, by decide, TG_in (List.mem_append_right _ (List.mem_of_getElem? (i := 189) (by decide +kernel))) (by decide +kernel), rfl, rfl, tyX8_ok 6 (by decide), wX8_in, tyX8_ok, nmX8⟩
theorem fX8_51 : FA RX8 51 8 7 false (.object "CloneOutline$State") := ⟨RX8, TX8, 8, tyX8, rfl, by decide, TG_in (List.mem_append_right _ (List.mem_of_getElem? (i := 190) (by decide +kernel))) (by decide +kernel), rfl, rfl, tyX8_ok 7 (by decide), wX8_in, tyX8_ok, nmX8⟩
theorem fX9_7 : FA RX9 7 9 0 true (.array .int) := ⟨RX9, TX9, 20, tyX9, rfl, by decide, TG_in (List.mem_append_right _ (List.mem_of_getElem? (i := 633) (by decide +kernel))) (by decide +kernel), rfl, rfl, tyX9_ok 0 (by decide), wX9_in, tyX9_ok, nmX9⟩
theorem fX9_13 : FA RX9 13 9 1 true (.array .int) := ⟨RX9, TX9, 20, tyX9, rfl, by decide, TG_in (List.mem_append_right _ (List.mem_of_getElem? (i := 634) (by decide +kernel))) (by decide +kernel), rfl, rfl, tyX9_ok 1 (by decide), wX9_in, tyX9_ok, nmX9⟩
theorem fX9_60 : FA RX9 60 9 2 false .int := ⟨RX9, TX9, 20, tyX9, rfl, by decide, TG_in (List.mem_append_right _ (List.mem_of_getElem? (i := 635) (by decide +kernel))) (by decide +kernel), rfl, rfl, tyX9_ok 2 (by decide), wX9_in, tyX9_ok, nmX9⟩
theorem fX9_16 : FA RX9 16 9 3 true (.array .int) := ⟨RX9, TX9, 20, tyX9, rfl, by decide, TG_in (List.mem_append_right _ (List.mem_of_getElem? (i := 636) (by decide +kernel))) (by decide +kernel), rfl, rfl, tyX9_ok 3 (by decide), wX9_in, tyX9_ok, nmX9⟩
theorem fX9_179 : FA RX9 179 9 4 false .boolean := ⟨RX9, TX9, 20, tyX9, rfl, by decide, TG_in (List.mem_append_right _ (List.mem_of_getElem? (i := 637) (by decide +kernel))) (by decide +kernel), rfl, rfl, tyX9_ok 4 (by decide), wX9_in, tyX9_ok, nmX9⟩
theorem fX9_19 : FA RX9 19 9 5 true (.array .int) := ⟨RX9, TX9, 20, tyX9, rfl, by decide, TG_in (List.mem_append_right _ (List.mem_of_getElem? (i := 638) (by decide +kernel))) (by decide +kernel), rfl, rfl, tyX9_ok 5 (by decide), wX9_in, tyX9_ok, nmX9⟩
theorem fX9_22 : FA RX9 22 9 6 true (.array .int) := ⟨RX9, TX9, 20, tyX9, rfl, by decide, TG_in (List.mem_append_right _ (List.mem_of_getElem? (i := 639) (by decide +kernel))) (by decide +kernel), rfl, rfl, tyX9_ok 6 (by decide), wX9_in, tyX9_ok, nmX9⟩
theorem fX9_25 : FA RX9 25 9 7 true (.array .int) := ⟨RX9, TX9, 20, tyX9, rfl, by decide, TG_in (List.mem_append_right _ (List.mem_of_getElem? (i := 640) (by decide +kernel))) (by decide +kernel), rfl, rfl, tyX9_ok 7 (by decide), wX9_in, tyX9_ok, nmX9⟩
theorem fX9_28 : FA RX9 28 9 8 true (.array .int) := ⟨RX9, TX9, 20, tyX9, rfl, by decide, TG_in (List.mem_append_right _ (List.mem_of_getElem? (i := 641) (by decide +kernel))) (by decide +kernel), rfl, rfl, tyX9_ok 8 (by decide), wX9_in, tyX9_ok, nmX9⟩
theorem fX9_31 : FA RX9 31 9 9 true (.array .int) := ⟨RX9, TX9, 20, tyX9, rfl, by decide, TG_in (List.mem_append_right _ (List.mem_of_getElem? (i := 642) (by decide +kernel))) (by decide +kernel), rfl, rfl, tyX9_ok 9 (by decide), wX9_in, tyX9_ok, nmX9⟩
theorem fX9_34 : FA RX9 34 9 10 true (.array .boolean) := ⟨RX9, TX9, 20, tyX9, rfl, by decide, TG_in (List.mem_append_right _ (List.mem_of_getElem? (i := 643) (by decide +kernel))) (by decide +kernel), rfl, rfl, tyX9_ok 10 (by decide), wX9_in, tyX9_ok, nmX9⟩
theorem fX9_38 : FA RX9 38 9 11 true (.array .int) := ⟨RX9, TX9, 20, tyX9, rfl, by decide, TG_in (List.mem_append_right _ (List.mem_of_getElem? (i := 644) (by decide +kernel))) (by decide +kernel), rfl, rfl, tyX9_ok 11 (by decide), wX9_in, tyX9_ok, nmX9⟩
theorem fX9_95 : FA RX9 95 9 12 false .int := ⟨RX9, TX9, 20, tyX9, rfl, by decide, TG_in (List.mem_append_right _ (List.mem_of_getElem? (i := 645) (by decide +kernel))) (by decide +kernel), rfl, rfl, tyX9_ok 12 (by decide), wX9_in, tyX9_ok, nmX9⟩
theorem fX9_41 : FA RX9 41 9 13 true (.array .char) := ⟨RX9, TX9, 20, tyX9, rfl, by decide, TG_in (List.mem_append_right _ (List.mem_of_getElem? (i := 646) (by decide +kernel))) (by decide +kernel), rfl, rfl, tyX9_ok 13 (by decide), wX9_in, tyX9_ok, nmX9⟩
theorem fX9_45 : FA RX9 45 9 14 true (.array .int) := ⟨RX9, TX9, 20, tyX9, rfl, by decide, TG_in (List.mem_append_right _ (List.mem_of_getElem? (i := 647) (by decide +kernel))) (by decide +kernel), rfl, rfl, tyX9_ok 14 (by decide), wX9_in, tyX9_ok, nmX9⟩
theorem fX9_167 : FA RX9 167 9 15 false .int := ⟨RX9, TX9, 20, tyX9, rfl, by decide, TG_in (List.mem_append_right _ (List.mem_of_getElem? (i := 648) (by decide +kernel))) (by decide +kernel), rfl, rfl, tyX9_ok 15 (by decide), wX9_in, tyX9_ok, nmX9⟩
theorem fX9_48 : FA RX9 48 9 16 true (.array .int) := ⟨RX9, TX9, 20, tyX9, rfl, by decide, TG_in (List.mem_append_right _ (List.mem_of_getElem? (i := 649) (by decide +kernel))) (by decide +kernel), rfl, rfl, tyX9_ok 16 (by decide), wX9_in, tyX9_ok, nmX9⟩
theorem fX9_51 : FA RX9 51 9 17 true (.array .int) := ⟨RX9, TX9, 20, tyX9, rfl, by decide, TG_in (List.mem_append_right _ (List.mem_of_getElem? (i := 650) (by decide +kernel))) (by decide +kernel), rfl, rfl, tyX9_ok 17 (by decide), wX9_in, tyX9_ok, nmX9⟩
theorem fX9_54 : FA RX9 54 9 18 true (.array .int) := ⟨RX9, TX9, 20, tyX9, rfl, by decide, TG_in (List.mem_append_right _ (List.mem_of_getElem? (i := 651) (by decide +kernel))) (by decide +kernel), rfl, rfl, tyX9_ok 18 (by decide), wX9_in, tyX9_ok, nmX9⟩
theorem fX9_57 : FA RX9 57 9 19 true (.array .int) := ⟨RX9, TX9, 20, tyX9, rfl, by decide, TG_in (List.mem_append_right _ (List.mem_of_getElem? (i := 652) (by decide +kernel))) (by decide +kernel), rfl, rfl, tyX9_ok 19 (by decide), wX9_in, tyX9_ok, nmX9⟩
abbrev mX8_init : MD := (yX8_init, cX8_init, 1, none)
theorem kcX8_init : Cond.code mX8_init.1 mX8_init.2.1 mX8_init.2.2.1 mX8_init.2.2.2 ∈ TG := TG_in (List.mem_append_right _ (List.mem_of_getElem? (i := 18) (by decide +kernel))) (by decide +kernel)
abbrev mX7_init : MD := (yX7_init, cX7_init, 1, none)
theorem kcX7_init : Cond.code mX7_init.1 mX7_init.2.1 mX7_init.2.2.1 mX7_init.2.2.2 ∈ TG := TG_in (List.mem_append_right _ (List.mem_of_getElem? (i := 26) (by decide +kernel))) (by decide +kernel)
abbrev mX4_init : MD := (yX4_init, cX4_init, 1, none)
theorem kcX4_init : Cond.code mX4_init.1 mX4_init.2.1 mX4_init.2.2.1 mX4_init.2.2.2 ∈ TG := TG_in (List.mem_append_right _ (List.mem_of_getElem? (i := 43) (by decide +kernel))) (by decide +kernel)
abbrev mX5_init : MD := (yX5_init, cX5_init, 1, none)
theorem kcX5_init : Cond.code mX5_init.1 mX5_init.2.1 mX5_init.2.2.1 mX5_init.2.2.2 ∈ TG := TG_in (List.mem_append_right _ (List.mem_of_getElem? (i := 65) (by decide +kernel))) (by decide +kernel)
abbrev mX0_init : MD := (yX0_init, cX0_init, 2, none)
theorem kcX0_init : Cond.code mX0_init.1 mX0_init.2.1 mX0_init.2.2.1 mX0_init.2.2.2 ∈ TG := TG_in (List.mem_append_right _ (List.mem_of_getElem? (i := 82) (by decide +kernel))) (by decide +kernel)
abbrev mX6_init : MD := (yX6_init, cX6_init, 1, none)
theorem kcX6_init : Cond.code mX6_init.1 mX6_init.2.1 mX6_init.2.2.1 mX6_init.2.2.2 ∈ TG := TG_in (List.mem_append_right _ (List.mem_of_getElem? (i := 89) (by decide +kernel))) (by decide +kernel)
abbrev mX2_init : MD := (yX2_init, cX2_init, 1, none)
theorem kcX2_init : Cond.code mX2_init.1 mX2_init.2.1 mX2_init.2.2.1 mX2_init.2.2.2 ∈ TG := TG_in (List.mem_append_right _ (List.mem_of_getElem? (i := 95) (by decide +kernel))) (by decide +kernel)
abbrev mX1_init : MD := (yX1_init, cX1_init, 1, none)
theorem kcX1_init : Cond.code mX1_init.1 mX1_init.2.1 mX1_init.2.2.1 mX1_init.2.2.2 ∈ TG := TG_in (List.mem_append_right _ (List.mem_of_getElem? (i := 116) (by decide +kernel))) (by decide +kernel)
abbrev mX3_init : MD := (yX3_init, cX3_init, 1, none)
theorem kcX3_init : Cond.code mX3_init.1 mX3_init.2.1 mX3_init.2.2.1 mX3_init.2.2.2 ∈ TG := TG_in (List.mem_append_right _ (List.mem_of_getElem? (i := 135) (by decide +kernel))) (by decide +kernel)
abbrev mX8_add : MD := (yX8_add, cX8_add, 4, (some .int))
theorem kcX8_add : Cond.code mX8_add.1 mX8_add.2.1 mX8_add.2.2.1 mX8_add.2.2.2 ∈ TG := TG_in (List.mem_append_right _ (List.mem_of_getElem? (i := 211) (by decide +kernel))) (by decide +kernel)
abbrev mX8_placeOrRoot : MD := (yX8_placeOrRoot, cX8_placeOrRoot, 2, (some .int))
theorem kcX8_placeOrRoot : Cond.code mX8_placeOrRoot.1 mX8_placeOrRoot.2.1 mX8_placeOrRoot.2.2.1 mX8_placeOrRoot.2.2.2 ∈ TG := TG_in (List.mem_append_right _ (List.mem_of_getElem? (i := 215) (by decide +kernel))) (by decide +kernel)
abbrev mX5_placeOf : MD := (yX5_placeOf, cX5_placeOf, 2, (some .int))
theorem kcX5_placeOf : Cond.code mX5_placeOf.1 mX5_placeOf.2.1 mX5_placeOf.2.2.1 mX5_placeOf.2.2.2 ∈ TG := TG_in (List.mem_append_right _ (List.mem_of_getElem? (i := 219) (by decide +kernel))) (by decide +kernel)
abbrev mX7_fitsNode : MD := (yX7_fitsNode, cX7_fitsNode, 1, (some .boolean))
theorem kcX7_fitsNode : Cond.code mX7_fitsNode.1 mX7_fitsNode.2.1 mX7_fitsNode.2.2.1 mX7_fitsNode.2.2.2 ∈ TG := TG_in (List.mem_append_right _ (List.mem_of_getElem? (i := 223) (by decide +kernel))) (by decide +kernel)
abbrev mX6_copyFrom : MD := (yX6_copyFrom, cX6_copyFrom, 2, none)
theorem kcX6_copyFrom : Cond.code mX6_copyFrom.1 mX6_copyFrom.2.1 mX6_copyFrom.2.2.1 mX6_copyFrom.2.2.2 ∈ TG := TG_in (List.mem_append_right _ (List.mem_of_getElem? (i := 227) (by decide +kernel))) (by decide +kernel)
abbrev mX2_copyFrom : MD := (yX2_copyFrom, cX2_copyFrom, 2, none)
theorem kcX2_copyFrom : Cond.code mX2_copyFrom.1 mX2_copyFrom.2.1 mX2_copyFrom.2.2.1 mX2_copyFrom.2.2.2 ∈ TG := TG_in (List.mem_append_right _ (List.mem_of_getElem? (i := 231) (by decide +kernel))) (by decide +kernel)
abbrev mX1_copyFrom : MD := (yX1_copyFrom, cX1_copyFrom, 2, none)
theorem kcX1_copyFrom : Cond.code mX1_copyFrom.1 mX1_copyFrom.2.1 mX1_copyFrom.2.2.1 mX1_copyFrom.2.2.2 ∈ TG := TG_in (List.mem_append_right _ (List.mem_of_getElem? (i := 238) (by decide +kernel))) (by decide +kernel)
abbrev mX3_copyFrom : MD := (yX3_copyFrom, cX3_copyFrom, 2, none)
theorem kcX3_copyFrom : Cond.code mX3_copyFrom.1 mX3_copyFrom.2.1 mX3_copyFrom.2.2.1 mX3_copyFrom.2.2.2 ∈ TG := TG_in (List.mem_append_right _ (List.mem_of_getElem? (i := 243) (by decide +kernel))) (by decide +kernel)
abbrev mX2_makeNode : MD := (yX2_makeNode, cX2_makeNode, 1, (some .int))
theorem kcX2_makeNode : Cond.code mX2_makeNode.1 mX2_makeNode.2.1 mX2_makeNode.2.2.1 mX2_makeNode.2.2.2 ∈ TG := TG_in (List.mem_append_right _ (List.mem_of_getElem? (i := 248) (by decide +kernel))) (by decide +kernel)
abbrev mX2_setText : MD := (yX2_setText, cX2_setText, 4, none)
theorem kcX2_setText : Cond.code mX2_setText.1 mX2_setText.2.1 mX2_setText.2.2.1 mX2_setText.2.2.2 ∈ TG := TG_in (List.mem_append_right _ (List.mem_of_getElem? (i := 252) (by decide +kernel))) (by decide +kernel)
abbrev mX2_isNumber : MD := (yX2_isNumber, cX2_isNumber, 1, (some .boolean))
theorem kcX2_isNumber : Cond.code mX2_isNumber.1 mX2_isNumber.2.1 mX2_isNumber.2.2.1 mX2_isNumber.2.2.2 ∈ TG := TG_in (List.mem_append_right _ (List.mem_of_getElem? (i := 255) (by decide +kernel))) (by decide +kernel)
abbrev mX7_codeAt : MD := (yX7_codeAt, cX7_codeAt, 2, (some .int))
theorem kcX7_codeAt : Cond.code mX7_codeAt.1 mX7_codeAt.2.1 mX7_codeAt.2.2.1 mX7_codeAt.2.2.2 ∈ TG := TG_in (List.mem_append_right _ (List.mem_of_getElem? (i := 260) (by decide +kernel))) (by decide +kernel)
abbrev mX3_nodeOf : MD := (yX3_nodeOf, cX3_nodeOf, 2, (some .int))
theorem kcX3_nodeOf : Cond.code mX3_nodeOf.1 mX3_nodeOf.2.1 mX3_nodeOf.2.2.1 mX3_nodeOf.2.2.2 ∈ TG := TG_in (List.mem_append_right _ (List.mem_of_getElem? (i := 264) (by decide +kernel))) (by decide +kernel)
abbrev mX3_isThere : MD := (yX3_isThere, cX3_isThere, 2, (some .boolean))
theorem kcX3_isThere : Cond.code mX3_isThere.1 mX3_isThere.2.1 mX3_isThere.2.2.1 mX3_isThere.2.2.2 ∈ TG := TG_in (List.mem_append_right _ (List.mem_of_getElem? (i := 268) (by decide +kernel))) (by decide +kernel)
abbrev mX8_attach : MD := (yX8_attach, cX8_attach, 3, (some .int))
theorem kcX8_attach : Cond.code mX8_attach.1 mX8_attach.2.1 mX8_attach.2.2.1 mX8_attach.2.2.2 ∈ TG := TG_in (List.mem_append_right _ (List.mem_of_getElem? (i := 272) (by decide +kernel))) (by decide +kernel)
abbrev mX1_append : MD := (yX1_append, cX1_append, 3, (some .boolean))
theorem kcX1_append : Cond.code mX1_append.1 mX1_append.2.1 mX1_append.2.2.1 mX1_append.2.2.2 ∈ TG := TG_in (List.mem_append_right _ (List.mem_of_getElem? (i := 276) (by decide +kernel))) (by decide +kernel)
abbrev mX6_placeAgain : MD := (yX6_placeAgain, cX6_placeAgain, 2, (some .boolean))
theorem kcX6_placeAgain : Cond.code mX6_placeAgain.1 mX6_placeAgain.2.1 mX6_placeAgain.2.2.1 mX6_placeAgain.2.2.2 ∈ TG := TG_in (List.mem_append_right _ (List.mem_of_getElem? (i := 280) (by decide +kernel))) (by decide +kernel)
abbrev mX6_grow : MD := (yX6_grow, cX6_grow, 11, (some .boolean))
theorem kcX6_grow : Cond.code mX6_grow.1 mX6_grow.2.1 mX6_grow.2.2.1 mX6_grow.2.2.2 ∈ TG := TG_in (List.mem_append_right _ (List.mem_of_getElem? (i := 283) (by decide +kernel))) (by decide +kernel)
abbrev mX3_childPlace : MD := (yX3_childPlace, cX3_childPlace, 5, (some .int))
theorem kcX3_childPlace : Cond.code mX3_childPlace.1 mX3_childPlace.2.1 mX3_childPlace.2.2.1 mX3_childPlace.2.2.2 ∈ TG := TG_in (List.mem_append_right _ (List.mem_of_getElem? (i := 288) (by decide +kernel))) (by decide +kernel)
abbrev mX3_levelOf : MD := (yX3_levelOf, cX3_levelOf, 2, (some .int))
theorem kcX3_levelOf : Cond.code mX3_levelOf.1 mX3_levelOf.2.1 mX3_levelOf.2.2.1 mX3_levelOf.2.2.2 ∈ TG := TG_in (List.mem_append_right _ (List.mem_of_getElem? (i := 292) (by decide +kernel))) (by decide +kernel)
abbrev mX3_foldOf : MD := (yX3_foldOf, cX3_foldOf, 2, (some .int))
theorem kcX3_foldOf : Cond.code mX3_foldOf.1 mX3_foldOf.2.1 mX3_foldOf.2.2.1 mX3_foldOf.2.2.2 ∈ TG := TG_in (List.mem_append_right _ (List.mem_of_getElem? (i := 296) (by decide +kernel))) (by decide +kernel)
abbrev mX3_append : MD := (yX3_append, cX3_append, 4, (some .int))
theorem kcX3_append : Cond.code mX3_append.1 mX3_append.2.1 mX3_append.2.2.1 mX3_append.2.2.2 ∈ TG := TG_in (List.mem_append_right _ (List.mem_of_getElem? (i := 300) (by decide +kernel))) (by decide +kernel)
abbrev mX8_accept : MD := (yX8_accept, cX8_accept, 2, none)
theorem kcX8_accept : Cond.code mX8_accept.1 mX8_accept.2.1 mX8_accept.2.2.1 mX8_accept.2.2.2 ∈ TG := TG_in (List.mem_append_right _ (List.mem_of_getElem? (i := 304) (by decide +kernel))) (by decide +kernel)
abbrev mX0_push : MD := (yX0_push, cX0_push, 2, none)
theorem kcX0_push : Cond.code mX0_push.1 mX0_push.2.1 mX0_push.2.2.1 mX0_push.2.2.2 ∈ TG := TG_in (List.mem_append_right _ (List.mem_of_getElem? (i := 308) (by decide +kernel))) (by decide +kernel)
abbrev mJ9_floorMod_7cf53 : MD := (yJ9_floorMod_7cf53, cJ9_floorMod_7cf53, 3, (some .int))
theorem kcJ9_floorMod_7cf53 : Cond.code mJ9_floorMod_7cf53.1 mJ9_floorMod_7cf53.2.1 mJ9_floorMod_7cf53.2.2.1 mJ9_floorMod_7cf53.2.2.2 ∈ TG := TG_in (List.mem_append_right _ (List.mem_of_getElem? (i := 311) (by decide +kernel))) (by decide +kernel)
abbrev mX5_refresh : MD := (yX5_refresh, cX5_refresh, 5, none)
theorem kcX5_refresh : Cond.code mX5_refresh.1 mX5_refresh.2.1 mX5_refresh.2.2.1 mX5_refresh.2.2.2 ∈ TG := TG_in (List.mem_append_right _ (List.mem_of_getElem? (i := 316) (by decide +kernel))) (by decide +kernel)
abbrev mX3_countOf : MD := (yX3_countOf, cX3_countOf, 4, (some .int))
theorem kcX3_countOf : Cond.code mX3_countOf.1 mX3_countOf.2.1 mX3_countOf.2.2.1 mX3_countOf.2.2.2 ∈ TG := TG_in (List.mem_append_right _ (List.mem_of_getElem? (i := 320) (by decide +kernel))) (by decide +kernel)
abbrev mX8_cloneTo : MD := (yX8_cloneTo, cX8_cloneTo, 4, (some .int))
theorem kcX8_cloneTo : Cond.code mX8_cloneTo.1 mX8_cloneTo.2.1 mX8_cloneTo.2.2.1 mX8_cloneTo.2.2.2 ∈ TG := TG_in (List.mem_append_right _ (List.mem_of_getElem? (i := 324) (by decide +kernel))) (by decide +kernel)
abbrev mX8_refusalOfParent : MD := (yX8_refusalOfParent, cX8_refusalOfParent, 9, (some .int))
theorem kcX8_refusalOfParent : Cond.code mX8_refusalOfParent.1 mX8_refusalOfParent.2.1 mX8_refusalOfParent.2.2.1 mX8_refusalOfParent.2.2.2 ∈ TG := TG_in (List.mem_append_right _ (List.mem_of_getElem? (i := 328) (by decide +kernel))) (by decide +kernel)
abbrev mX3_nodesWithin : MD := (yX3_nodesWithin, cX3_nodesWithin, 6, (some .long))
theorem kcX3_nodesWithin : Cond.code mX3_nodesWithin.1 mX3_nodesWithin.2.1 mX3_nodesWithin.2.2.1 mX3_nodesWithin.2.2.2 ∈ TG := TG_in (List.mem_append_right _ (List.mem_of_getElem? (i := 332) (by decide +kernel))) (by decide +kernel)
abbrev mX3_endOf : MD := (yX3_endOf, cX3_endOf, 4, (some .int))
theorem kcX3_endOf : Cond.code mX3_endOf.1 mX3_endOf.2.1 mX3_endOf.2.2.1 mX3_endOf.2.2.2 ∈ TG := TG_in (List.mem_append_right _ (List.mem_of_getElem? (i := 336) (by decide +kernel))) (by decide +kernel)
abbrev mJ9_max_7cf53 : MD := (yJ9_max_7cf53, cJ9_max_7cf53, 2, (some .int))
theorem kcJ9_max_7cf53 : Cond.code mJ9_max_7cf53.1 mJ9_max_7cf53.2.1 mJ9_max_7cf53.2.2.1 mJ9_max_7cf53.2.2.2 ∈ TG := TG_in (List.mem_append_right _ (List.mem_of_getElem? (i := 339) (by decide +kernel))) (by decide +kernel)
abbrev mX1_indexOf : MD := (yX1_indexOf, cX1_indexOf, 4, (some .int))
theorem kcX1_indexOf : Cond.code mX1_indexOf.1 mX1_indexOf.2.1 mX1_indexOf.2.2.1 mX1_indexOf.2.2.2 ∈ TG := TG_in (List.mem_append_right _ (List.mem_of_getElem? (i := 343) (by decide +kernel))) (by decide +kernel)
abbrev mX8_nodeOfRow : MD := (yX8_nodeOfRow, cX8_nodeOfRow, 2, (some .int))
theorem kcX8_nodeOfRow : Cond.code mX8_nodeOfRow.1 mX8_nodeOfRow.2.1 mX8_nodeOfRow.2.2.1 mX8_nodeOfRow.2.2.2 ∈ TG := TG_in (List.mem_append_right _ (List.mem_of_getElem? (i := 347) (by decide +kernel))) (by decide +kernel)
abbrev mX8_move : MD := (yX8_move, cX8_move, 5, (some .int))
theorem kcX8_move : Cond.code mX8_move.1 mX8_move.2.1 mX8_move.2.2.1 mX8_move.2.2.2 ∈ TG := TG_in (List.mem_append_right _ (List.mem_of_getElem? (i := 351) (by decide +kernel))) (by decide +kernel)
abbrev mX8_parentNodeOf : MD := (yX8_parentNodeOf, cX8_parentNodeOf, 2, (some .int))
theorem kcX8_parentNodeOf : Cond.code mX8_parentNodeOf.1 mX8_parentNodeOf.2.1 mX8_parentNodeOf.2.2.1 mX8_parentNodeOf.2.2.2 ∈ TG := TG_in (List.mem_append_right _ (List.mem_of_getElem? (i := 355) (by decide +kernel))) (by decide +kernel)
abbrev mX3_parentOf : MD := (yX3_parentOf, cX3_parentOf, 2, (some .int))
theorem kcX3_parentOf : Cond.code mX3_parentOf.1 mX3_parentOf.2.1 mX3_parentOf.2.2.1 mX3_parentOf.2.2.2 ∈ TG := TG_in (List.mem_append_right _ (List.mem_of_getElem? (i := 359) (by decide +kernel))) (by decide +kernel)
abbrev mX3_atLevel : MD := (yX3_atLevel, cX3_atLevel, 4, (some .int))
theorem kcX3_atLevel : Cond.code mX3_atLevel.1 mX3_atLevel.2.1 mX3_atLevel.2.2.1 mX3_atLevel.2.2.2 ∈ TG := TG_in (List.mem_append_right _ (List.mem_of_getElem? (i := 363) (by decide +kernel))) (by decide +kernel)
abbrev mJ9_min_7cf53 : MD := (yJ9_min_7cf53, cJ9_min_7cf53, 2, (some .int))
theorem kcJ9_min_7cf53 : Cond.code mJ9_min_7cf53.1 mJ9_min_7cf53.2.1 mJ9_min_7cf53.2.2.1 mJ9_min_7cf53.2.2.2 ∈ TG := TG_in (List.mem_append_right _ (List.mem_of_getElem? (i := 366) (by decide +kernel))) (by decide +kernel)
abbrev mX1_drop : MD := (yX1_drop, cX1_drop, 5, none)
theorem kcX1_drop : Cond.code mX1_drop.1 mX1_drop.2.1 mX1_drop.2.2.1 mX1_drop.2.2.2 ∈ TG := TG_in (List.mem_append_right _ (List.mem_of_getElem? (i := 370) (by decide +kernel))) (by decide +kernel)
abbrev mX8_cut : MD := (yX8_cut, cX8_cut, 4, (some .int))
theorem kcX8_cut : Cond.code mX8_cut.1 mX8_cut.2.1 mX8_cut.2.2.1 mX8_cut.2.2.2 ∈ TG := TG_in (List.mem_append_right _ (List.mem_of_getElem? (i := 375) (by decide +kernel))) (by decide +kernel)
abbrev mX3_nodeSet : MD := (yX3_nodeSet, cX3_nodeSet, 1, (some .long))
theorem kcX3_nodeSet : Cond.code mX3_nodeSet.1 mX3_nodeSet.2.1 mX3_nodeSet.2.2.1 mX3_nodeSet.2.2.2 ∈ TG := TG_in (List.mem_append_right _ (List.mem_of_getElem? (i := 379) (by decide +kernel))) (by decide +kernel)
abbrev mX6_dropVanished : MD := (yX6_dropVanished, cX6_dropVanished, 5, (some .int))
theorem kcX6_dropVanished : Cond.code mX6_dropVanished.1 mX6_dropVanished.2.1 mX6_dropVanished.2.2.1 mX6_dropVanished.2.2.2 ∈ TG := TG_in (List.mem_append_right _ (List.mem_of_getElem? (i := 384) (by decide +kernel))) (by decide +kernel)
abbrev mX1_keepParents : MD := (yX1_keepParents, cX1_keepParents, 5, none)
theorem kcX1_keepParents : Cond.code mX1_keepParents.1 mX1_keepParents.2.1 mX1_keepParents.2.2.1 mX1_keepParents.2.2.2 ∈ TG := TG_in (List.mem_append_right _ (List.mem_of_getElem? (i := 389) (by decide +kernel))) (by decide +kernel)
abbrev mJ13_bitCount_95d88 : MD := (yJ13_bitCount_95d88, cJ13_bitCount_95d88, 2, (some .int))
theorem kcJ13_bitCount_95d88 : Cond.code mJ13_bitCount_95d88.1 mJ13_bitCount_95d88.2.1 mJ13_bitCount_95d88.2.2.1 mJ13_bitCount_95d88.2.2.2 ∈ TG := TG_in (List.mem_append_right _ (List.mem_of_getElem? (i := 393) (by decide +kernel))) (by decide +kernel)
abbrev mX8_shift : MD := (yX8_shift, cX8_shift, 7, (some .int))
theorem kcX8_shift : Cond.code mX8_shift.1 mX8_shift.2.1 mX8_shift.2.2.1 mX8_shift.2.2.2 ∈ TG := TG_in (List.mem_append_right _ (List.mem_of_getElem? (i := 400) (by decide +kernel))) (by decide +kernel)
abbrev mX1_position : MD := (yX1_position, cX1_position, 5, (some .int))
theorem kcX1_position : Cond.code mX1_position.1 mX1_position.2.1 mX1_position.2.2.1 mX1_position.2.2.2 ∈ TG := TG_in (List.mem_append_right _ (List.mem_of_getElem? (i := 404) (by decide +kernel))) (by decide +kernel)
abbrev mX1_childCount : MD := (yX1_childCount, cX1_childCount, 4, (some .int))
theorem kcX1_childCount : Cond.code mX1_childCount.1 mX1_childCount.2.1 mX1_childCount.2.2.1 mX1_childCount.2.2.2 ∈ TG := TG_in (List.mem_append_right _ (List.mem_of_getElem? (i := 408) (by decide +kernel))) (by decide +kernel)
abbrev mX1_shiftChild : MD := (yX1_shiftChild, cX1_shiftChild, 8, none)
theorem kcX1_shiftChild : Cond.code mX1_shiftChild.1 mX1_shiftChild.2.1 mX1_shiftChild.2.2.1 mX1_shiftChild.2.2.2 ∈ TG := TG_in (List.mem_append_right _ (List.mem_of_getElem? (i := 412) (by decide +kernel))) (by decide +kernel)
abbrev mJ9_abs_0f7a4 : MD := (yJ9_abs_0f7a4, cJ9_abs_0f7a4, 1, (some .int))
theorem kcJ9_abs_0f7a4 : Cond.code mJ9_abs_0f7a4.1 mJ9_abs_0f7a4.2.1 mJ9_abs_0f7a4.2.2.1 mJ9_abs_0f7a4.2.2.2 ∈ TG := TG_in (List.mem_append_right _ (List.mem_of_getElem? (i := 415) (by decide +kernel))) (by decide +kernel)
abbrev mX8_edit : MD := (yX8_edit, cX8_edit, 4, (some .int))
theorem kcX8_edit : Cond.code mX8_edit.1 mX8_edit.2.1 mX8_edit.2.2.1 mX8_edit.2.2.2 ∈ TG := TG_in (List.mem_append_right _ (List.mem_of_getElem? (i := 419) (by decide +kernel))) (by decide +kernel)
abbrev mX2_hasText : MD := (yX2_hasText, cX2_hasText, 4, (some .boolean))
theorem kcX2_hasText : Cond.code mX2_hasText.1 mX2_hasText.2.1 mX2_hasText.2.2.1 mX2_hasText.2.2.2 ∈ TG := TG_in (List.mem_append_right _ (List.mem_of_getElem? (i := 423) (by decide +kernel))) (by decide +kernel)
abbrev mX2_lengthOf : MD := (yX2_lengthOf, cX2_lengthOf, 2, (some .int))
theorem kcX2_lengthOf : Cond.code mX2_lengthOf.1 mX2_lengthOf.2.1 mX2_lengthOf.2.2.1 mX2_lengthOf.2.2.2 ∈ TG := TG_in (List.mem_append_right _ (List.mem_of_getElem? (i := 427) (by decide +kernel))) (by decide +kernel)
abbrev mX2_codeAt : MD := (yX2_codeAt, cX2_codeAt, 4, (some .int))
theorem kcX2_codeAt : Cond.code mX2_codeAt.1 mX2_codeAt.2.1 mX2_codeAt.2.2.1 mX2_codeAt.2.2.2 ∈ TG := TG_in (List.mem_append_right _ (List.mem_of_getElem? (i := 431) (by decide +kernel))) (by decide +kernel)
abbrev mX8_mark : MD := (yX8_mark, cX8_mark, 5, (some .int))
theorem kcX8_mark : Cond.code mX8_mark.1 mX8_mark.2.1 mX8_mark.2.2.1 mX8_mark.2.2.2 ∈ TG := TG_in (List.mem_append_right _ (List.mem_of_getElem? (i := 435) (by decide +kernel))) (by decide +kernel)
abbrev mX8_isMark : MD := (yX8_isMark, cX8_isMark, 1, (some .boolean))
theorem kcX8_isMark : Cond.code mX8_isMark.1 mX8_isMark.2.1 mX8_isMark.2.2.1 mX8_isMark.2.2.2 ∈ TG := TG_in (List.mem_append_right _ (List.mem_of_getElem? (i := 438) (by decide +kernel))) (by decide +kernel)
abbrev mX2_toggleMark : MD := (yX2_toggleMark, cX2_toggleMark, 3, none)
theorem kcX2_toggleMark : Cond.code mX2_toggleMark.1 mX2_toggleMark.2.1 mX2_toggleMark.2.2.1 mX2_toggleMark.2.2.2 ∈ TG := TG_in (List.mem_append_right _ (List.mem_of_getElem? (i := 442) (by decide +kernel))) (by decide +kernel)
abbrev mX2_marksOf : MD := (yX2_marksOf, cX2_marksOf, 2, (some .int))
theorem kcX2_marksOf : Cond.code mX2_marksOf.1 mX2_marksOf.2.1 mX2_marksOf.2.2.1 mX2_marksOf.2.2.2 ∈ TG := TG_in (List.mem_append_right _ (List.mem_of_getElem? (i := 447) (by decide +kernel))) (by decide +kernel)
abbrev mX8_fold : MD := (yX8_fold, cX8_fold, 5, (some .int))
theorem kcX8_fold : Cond.code mX8_fold.1 mX8_fold.2.1 mX8_fold.2.2.1 mX8_fold.2.2.2 ∈ TG := TG_in (List.mem_append_right _ (List.mem_of_getElem? (i := 451) (by decide +kernel))) (by decide +kernel)
abbrev mX3_hasChildren : MD := (yX3_hasChildren, cX3_hasChildren, 2, (some .boolean))
theorem kcX3_hasChildren : Cond.code mX3_hasChildren.1 mX3_hasChildren.2.1 mX3_hasChildren.2.2.1 mX3_hasChildren.2.2.2 ∈ TG := TG_in (List.mem_append_right _ (List.mem_of_getElem? (i := 455) (by decide +kernel))) (by decide +kernel)
abbrev mX3_setFold : MD := (yX3_setFold, cX3_setFold, 3, none)
theorem kcX3_setFold : Cond.code mX3_setFold.1 mX3_setFold.2.1 mX3_setFold.2.2.1 mX3_setFold.2.2.2 ∈ TG := TG_in (List.mem_append_right _ (List.mem_of_getElem? (i := 460) (by decide +kernel))) (by decide +kernel)
abbrev mX8_foldLevel : MD := (yX8_foldLevel, cX8_foldLevel, 2, (some .int))
theorem kcX8_foldLevel : Cond.code mX8_foldLevel.1 mX8_foldLevel.2.1 mX8_foldLevel.2.2.1 mX8_foldLevel.2.2.2 ∈ TG := TG_in (List.mem_append_right _ (List.mem_of_getElem? (i := 464) (by decide +kernel))) (by decide +kernel)
abbrev mX3_foldAtLevel : MD := (yX3_foldAtLevel, cX3_foldAtLevel, 6, (some .boolean))
theorem kcX3_foldAtLevel : Cond.code mX3_foldAtLevel.1 mX3_foldAtLevel.2.1 mX3_foldAtLevel.2.2.1 mX3_foldAtLevel.2.2.2 ∈ TG := TG_in (List.mem_append_right _ (List.mem_of_getElem? (i := 468) (by decide +kernel))) (by decide +kernel)
abbrev mX8_show : MD := (yX8_show, cX8_show, 3, (some .int))
theorem kcX8_show : Cond.code mX8_show.1 mX8_show.2.1 mX8_show.2.2.1 mX8_show.2.2.2 ∈ TG := TG_in (List.mem_append_right _ (List.mem_of_getElem? (i := 473) (by decide +kernel))) (by decide +kernel)
abbrev mX3_firstOf : MD := (yX3_firstOf, cX3_firstOf, 3, (some .int))
theorem kcX3_firstOf : Cond.code mX3_firstOf.1 mX3_firstOf.2.1 mX3_firstOf.2.2.1 mX3_firstOf.2.2.2 ∈ TG := TG_in (List.mem_append_right _ (List.mem_of_getElem? (i := 477) (by decide +kernel))) (by decide +kernel)
abbrev mX3_unfoldAround : MD := (yX3_unfoldAround, cX3_unfoldAround, 5, (some .boolean))
theorem kcX3_unfoldAround : Cond.code mX3_unfoldAround.1 mX3_unfoldAround.2.1 mX3_unfoldAround.2.2.1 mX3_unfoldAround.2.2.2 ∈ TG := TG_in (List.mem_append_right _ (List.mem_of_getElem? (i := 481) (by decide +kernel))) (by decide +kernel)
abbrev mX5_rowOf : MD := (yX5_rowOf, cX5_rowOf, 2, (some .int))
theorem kcX5_rowOf : Cond.code mX5_rowOf.1 mX5_rowOf.2.1 mX5_rowOf.2.2.1 mX5_rowOf.2.2.2 ∈ TG := TG_in (List.mem_append_right _ (List.mem_of_getElem? (i := 485) (by decide +kernel))) (by decide +kernel)
abbrev mX8_type : MD := (yX8_type, cX8_type, 2, (some .int))
theorem kcX8_type : Cond.code mX8_type.1 mX8_type.2.1 mX8_type.2.2.1 mX8_type.2.2.2 ∈ TG := TG_in (List.mem_append_right _ (List.mem_of_getElem? (i := 489) (by decide +kernel))) (by decide +kernel)
abbrev mX7_append : MD := (yX7_append, cX7_append, 2, (some .boolean))
theorem kcX7_append : Cond.code mX7_append.1 mX7_append.2.1 mX7_append.2.2.1 mX7_append.2.2.2 ∈ TG := TG_in (List.mem_append_right _ (List.mem_of_getElem? (i := 493) (by decide +kernel))) (by decide +kernel)
abbrev mX8_clearText : MD := (yX8_clearText, cX8_clearText, 2, (some .int))
theorem kcX8_clearText : Cond.code mX8_clearText.1 mX8_clearText.2.1 mX8_clearText.2.2.1 mX8_clearText.2.2.2 ∈ TG := TG_in (List.mem_append_right _ (List.mem_of_getElem? (i := 497) (by decide +kernel))) (by decide +kernel)
abbrev mX8_readOutline : MD := (yX8_readOutline, cX8_readOutline, 2, (some .int))
theorem kcX8_readOutline : Cond.code mX8_readOutline.1 mX8_readOutline.2.1 mX8_readOutline.2.2.1 mX8_readOutline.2.2.2 ∈ TG := TG_in (List.mem_append_right _ (List.mem_of_getElem? (i := 501) (by decide +kernel))) (by decide +kernel)
abbrev mX6_clearNodes : MD := (yX6_clearNodes, cX6_clearNodes, 1, none)
theorem kcX6_clearNodes : Cond.code mX6_clearNodes.1 mX6_clearNodes.2.1 mX6_clearNodes.2.2.1 mX6_clearNodes.2.2.2 ∈ TG := TG_in (List.mem_append_right _ (List.mem_of_getElem? (i := 505) (by decide +kernel))) (by decide +kernel)
abbrev mX4_read : MD := (yX4_read, cX4_read, 6, (some .int))
theorem kcX4_read : Cond.code mX4_read.1 mX4_read.2.1 mX4_read.2.2.1 mX4_read.2.2.2 ∈ TG := TG_in (List.mem_append_right _ (List.mem_of_getElem? (i := 509) (by decide +kernel))) (by decide +kernel)
abbrev mX4_begin : MD := (yX4_begin, cX4_begin, 2, none)
theorem kcX4_begin : Cond.code mX4_begin.1 mX4_begin.2.1 mX4_begin.2.2.1 mX4_begin.2.2.2 ∈ TG := TG_in (List.mem_append_right _ (List.mem_of_getElem? (i := 513) (by decide +kernel))) (by decide +kernel)
abbrev mX4_takeLetter : MD := (yX4_takeLetter, cX4_takeLetter, 6, (some .boolean))
theorem kcX4_takeLetter : Cond.code mX4_takeLetter.1 mX4_takeLetter.2.1 mX4_takeLetter.2.2.1 mX4_takeLetter.2.2.2 ∈ TG := TG_in (List.mem_append_right _ (List.mem_of_getElem? (i := 518) (by decide +kernel))) (by decide +kernel)
abbrev mX2_setLetter : MD := (yX2_setLetter, cX2_setLetter, 3, none)
theorem kcX2_setLetter : Cond.code mX2_setLetter.1 mX2_setLetter.2.1 mX2_setLetter.2.2.1 mX2_setLetter.2.2.2 ∈ TG := TG_in (List.mem_append_right _ (List.mem_of_getElem? (i := 523) (by decide +kernel))) (by decide +kernel)
abbrev mX4_isOpen : MD := (yX4_isOpen, cX4_isOpen, 3, (some .boolean))
theorem kcX4_isOpen : Cond.code mX4_isOpen.1 mX4_isOpen.2.1 mX4_isOpen.2.2.1 mX4_isOpen.2.2.2 ∈ TG := TG_in (List.mem_append_right _ (List.mem_of_getElem? (i := 527) (by decide +kernel))) (by decide +kernel)
abbrev mX4_takeSign : MD := (yX4_takeSign, cX4_takeSign, 2, (some .boolean))
theorem kcX4_takeSign : Cond.code mX4_takeSign.1 mX4_takeSign.2.1 mX4_takeSign.2.2.1 mX4_takeSign.2.2.2 ∈ TG := TG_in (List.mem_append_right _ (List.mem_of_getElem? (i := 533) (by decide +kernel))) (by decide +kernel)
abbrev mX6_placeAnew : MD := (yX6_placeAnew, cX6_placeAnew, 1, (some .boolean))
theorem kcX6_placeAnew : Cond.code mX6_placeAnew.1 mX6_placeAnew.2.1 mX6_placeAnew.2.2.1 mX6_placeAnew.2.2.2 ∈ TG := TG_in (List.mem_append_right _ (List.mem_of_getElem? (i := 537) (by decide +kernel))) (by decide +kernel)
abbrev mX8_undo : MD := (yX8_undo, cX8_undo, 1, (some .int))
theorem kcX8_undo : Cond.code mX8_undo.1 mX8_undo.2.1 mX8_undo.2.2.1 mX8_undo.2.2.2 ∈ TG := TG_in (List.mem_append_right _ (List.mem_of_getElem? (i := 541) (by decide +kernel))) (by decide +kernel)
abbrev mX0_popInto : MD := (yX0_popInto, cX0_popInto, 2, (some .boolean))
theorem kcX0_popInto : Cond.code mX0_popInto.1 mX0_popInto.2.1 mX0_popInto.2.2.1 mX0_popInto.2.2.2 ∈ TG := TG_in (List.mem_append_right _ (List.mem_of_getElem? (i := 545) (by decide +kernel))) (by decide +kernel)
abbrev mX8_keep : MD := (yX8_keep, cX8_keep, 1, (some .int))
theorem kcX8_keep : Cond.code mX8_keep.1 mX8_keep.2.1 mX8_keep.2.2.1 mX8_keep.2.2.2 ∈ TG := TG_in (List.mem_append_right _ (List.mem_of_getElem? (i := 549) (by decide +kernel))) (by decide +kernel)
abbrev mX8_restore : MD := (yX8_restore, cX8_restore, 1, (some .int))
theorem kcX8_restore : Cond.code mX8_restore.1 mX8_restore.2.1 mX8_restore.2.2.1 mX8_restore.2.2.2 ∈ TG := TG_in (List.mem_append_right _ (List.mem_of_getElem? (i := 553) (by decide +kernel))) (by decide +kernel)
abbrev mX8_row : MD := (yX8_row, cX8_row, 6, (some .int))
theorem kcX8_row : Cond.code mX8_row.1 mX8_row.2.1 mX8_row.2.2.1 mX8_row.2.2.2 ∈ TG := TG_in (List.mem_append_right _ (List.mem_of_getElem? (i := 557) (by decide +kernel))) (by decide +kernel)
abbrev mX8_positionAt : MD := (yX8_positionAt, cX8_positionAt, 2, (some .int))
theorem kcX8_positionAt : Cond.code mX8_positionAt.1 mX8_positionAt.2.1 mX8_positionAt.2.2.1 mX8_positionAt.2.2.2 ∈ TG := TG_in (List.mem_append_right _ (List.mem_of_getElem? (i := 562) (by decide +kernel))) (by decide +kernel)
abbrev mX8_parentRow : MD := (yX8_parentRow, cX8_parentRow, 3, (some .int))
theorem kcX8_parentRow : Cond.code mX8_parentRow.1 mX8_parentRow.2.1 mX8_parentRow.2.2.1 mX8_parentRow.2.2.2 ∈ TG := TG_in (List.mem_append_right _ (List.mem_of_getElem? (i := 566) (by decide +kernel))) (by decide +kernel)
abbrev mX5_seenBetween : MD := (yX5_seenBetween, cX5_seenBetween, 5, (some .int))
theorem kcX5_seenBetween : Cond.code mX5_seenBetween.1 mX5_seenBetween.2.1 mX5_seenBetween.2.2.1 mX5_seenBetween.2.2.2 ∈ TG := TG_in (List.mem_append_right _ (List.mem_of_getElem? (i := 571) (by decide +kernel))) (by decide +kernel)
abbrev mX8_number : MD := (yX8_number, cX8_number, 4, (some .int))
theorem kcX8_number : Cond.code mX8_number.1 mX8_number.2.1 mX8_number.2.2.1 mX8_number.2.2.2 ∈ TG := TG_in (List.mem_append_right _ (List.mem_of_getElem? (i := 576) (by decide +kernel))) (by decide +kernel)
abbrev mX8_charAt : MD := (yX8_charAt, cX8_charAt, 5, (some .int))
theorem kcX8_charAt : Cond.code mX8_charAt.1 mX8_charAt.2.1 mX8_charAt.2.2.1 mX8_charAt.2.2.2 ∈ TG := TG_in (List.mem_append_right _ (List.mem_of_getElem? (i := 581) (by decide +kernel))) (by decide +kernel)
abbrev mX8_node : MD := (yX8_node, cX8_node, 5, (some .int))
theorem kcX8_node : Cond.code mX8_node.1 mX8_node.2.1 mX8_node.2.2.1 mX8_node.2.2.2 ∈ TG := TG_in (List.mem_append_right _ (List.mem_of_getElem? (i := 587) (by decide +kernel))) (by decide +kernel)
abbrev mX1_parentCount : MD := (yX1_parentCount, cX1_parentCount, 4, (some .int))
theorem kcX1_parentCount : Cond.code mX1_parentCount.1 mX1_parentCount.2.1 mX1_parentCount.2.2.1 mX1_parentCount.2.2.2 ∈ TG := TG_in (List.mem_append_right _ (List.mem_of_getElem? (i := 591) (by decide +kernel))) (by decide +kernel)
abbrev mX5_seenOf : MD := (yX5_seenOf, cX5_seenOf, 5, (some .int))
theorem kcX5_seenOf : Cond.code mX5_seenOf.1 mX5_seenOf.2.1 mX5_seenOf.2.2.1 mX5_seenOf.2.2.2 ∈ TG := TG_in (List.mem_append_right _ (List.mem_of_getElem? (i := 595) (by decide +kernel))) (by decide +kernel)
abbrev mX5_firstOf : MD := (yX5_firstOf, cX5_firstOf, 4, (some .int))
theorem kcX5_firstOf : Cond.code mX5_firstOf.1 mX5_firstOf.2.1 mX5_firstOf.2.2.1 mX5_firstOf.2.2.2 ∈ TG := TG_in (List.mem_append_right _ (List.mem_of_getElem? (i := 600) (by decide +kernel))) (by decide +kernel)
abbrev mX8_nextMarked : MD := (yX8_nextMarked, cX8_nextMarked, 4, (some .int))
theorem kcX8_nextMarked : Cond.code mX8_nextMarked.1 mX8_nextMarked.2.1 mX8_nextMarked.2.2.1 mX8_nextMarked.2.2.2 ∈ TG := TG_in (List.mem_append_right _ (List.mem_of_getElem? (i := 605) (by decide +kernel))) (by decide +kernel)
abbrev mX8_find : MD := (yX8_find, cX8_find, 3, (some .int))
theorem kcX8_find : Cond.code mX8_find.1 mX8_find.2.1 mX8_find.2.2.1 mX8_find.2.2.2 ∈ TG := TG_in (List.mem_append_right _ (List.mem_of_getElem? (i := 609) (by decide +kernel))) (by decide +kernel)
abbrev mX8_count : MD := (yX8_count, cX8_count, 2, (some .int))
theorem kcX8_count : Cond.code mX8_count.1 mX8_count.2.1 mX8_count.2.2.1 mX8_count.2.2.2 ∈ TG := TG_in (List.mem_append_right _ (List.mem_of_getElem? (i := 613) (by decide +kernel))) (by decide +kernel)
abbrev mX3_foldedCount : MD := (yX3_foldedCount, cX3_foldedCount, 3, (some .int))
theorem kcX3_foldedCount : Cond.code mX3_foldedCount.1 mX3_foldedCount.2.1 mX3_foldedCount.2.2.1 mX3_foldedCount.2.2.2 ∈ TG := TG_in (List.mem_append_right _ (List.mem_of_getElem? (i := 617) (by decide +kernel))) (by decide +kernel)
abbrev mX1_sharedCount : MD := (yX1_sharedCount, cX1_sharedCount, 3, (some .int))
theorem kcX1_sharedCount : Cond.code mX1_sharedCount.1 mX1_sharedCount.2.1 mX1_sharedCount.2.2.1 mX1_sharedCount.2.2.2 ∈ TG := TG_in (List.mem_append_right _ (List.mem_of_getElem? (i := 621) (by decide +kernel))) (by decide +kernel)
abbrev mX3_greatestLevel : MD := (yX3_greatestLevel, cX3_greatestLevel, 3, (some .int))
theorem kcX3_greatestLevel : Cond.code mX3_greatestLevel.1 mX3_greatestLevel.2.1 mX3_greatestLevel.2.2.1 mX3_greatestLevel.2.2.2 ∈ TG := TG_in (List.mem_append_right _ (List.mem_of_getElem? (i := 626) (by decide +kernel))) (by decide +kernel)
abbrev mX9_init : MD := (yX9_init, cX9_init, 1, none)
theorem kcX9_init : Cond.code mX9_init.1 mX9_init.2.1 mX9_init.2.2.1 mX9_init.2.2.2 ∈ TG := TG_in (List.mem_append_right _ (List.mem_of_getElem? (i := 631) (by decide +kernel))) (by decide +kernel)
abbrev mX9_add : MD := (yX9_add, cX9_add, 4, (some .int))
theorem kcX9_add : Cond.code mX9_add.1 mX9_add.2.1 mX9_add.2.2.1 mX9_add.2.2.2 ∈ TG := TG_in (List.mem_append_right _ (List.mem_of_getElem? (i := 699) (by decide +kernel))) (by decide +kernel)
abbrev mX9_nodeOf : MD := (yX9_nodeOf, cX9_nodeOf, 3, (some .int))
theorem kcX9_nodeOf : Cond.code mX9_nodeOf.1 mX9_nodeOf.2.1 mX9_nodeOf.2.2.1 mX9_nodeOf.2.2.2 ∈ TG := TG_in (List.mem_append_right _ (List.mem_of_getElem? (i := 703) (by decide +kernel))) (by decide +kernel)
abbrev mX9_placeOf : MD := (yX9_placeOf, cX9_placeOf, 4, (some .int))
theorem kcX9_placeOf : Cond.code mX9_placeOf.1 mX9_placeOf.2.1 mX9_placeOf.2.2.1 mX9_placeOf.2.2.2 ∈ TG := TG_in (List.mem_append_right _ (List.mem_of_getElem? (i := 707) (by decide +kernel))) (by decide +kernel)
abbrev mX9_isSeen : MD := (yX9_isSeen, cX9_isSeen, 4, (some .boolean))
theorem kcX9_isSeen : Cond.code mX9_isSeen.1 mX9_isSeen.2.1 mX9_isSeen.2.2.1 mX9_isSeen.2.2.2 ∈ TG := TG_in (List.mem_append_right _ (List.mem_of_getElem? (i := 711) (by decide +kernel))) (by decide +kernel)
abbrev mX9_at : MD := (yX9_at, cX9_at, 3, (some .int))
theorem kcX9_at : Cond.code mX9_at.1 mX9_at.2.1 mX9_at.2.2.1 mX9_at.2.2.2 ∈ TG := TG_in (List.mem_append_right _ (List.mem_of_getElem? (i := 715) (by decide +kernel))) (by decide +kernel)
abbrev mX9_in : MD := (yX9_in, cX9_in, 3, (some .boolean))
theorem kcX9_in : Cond.code mX9_in.1 mX9_in.2.1 mX9_in.2.2.1 mX9_in.2.2.2 ∈ TG := TG_in (List.mem_append_right _ (List.mem_of_getElem? (i := 718) (by decide +kernel))) (by decide +kernel)
abbrev mX9_takeSpare : MD := (yX9_takeSpare, cX9_takeSpare, 2, none)
theorem kcX9_takeSpare : Cond.code mX9_takeSpare.1 mX9_takeSpare.2.1 mX9_takeSpare.2.2.1 mX9_takeSpare.2.2.2 ∈ TG := TG_in (List.mem_append_right _ (List.mem_of_getElem? (i := 722) (by decide +kernel))) (by decide +kernel)
abbrev mX9_make : MD := (yX9_make, cX9_make, 3, none)
theorem kcX9_make : Cond.code mX9_make.1 mX9_make.2.1 mX9_make.2.2.1 mX9_make.2.2.2 ∈ TG := TG_in (List.mem_append_right _ (List.mem_of_getElem? (i := 726) (by decide +kernel))) (by decide +kernel)
abbrev mX9_to : MD := (yX9_to, cX9_to, 4, none)
theorem kcX9_to : Cond.code mX9_to.1 mX9_to.2.1 mX9_to.2.2.1 mX9_to.2.2.2 ∈ TG := TG_in (List.mem_append_right _ (List.mem_of_getElem? (i := 730) (by decide +kernel))) (by decide +kernel)
abbrev mX9_writeText : MD := (yX9_writeText, cX9_writeText, 3, none)
theorem kcX9_writeText : Cond.code mX9_writeText.1 mX9_writeText.2.1 mX9_writeText.2.2.1 mX9_writeText.2.2.2 ∈ TG := TG_in (List.mem_append_right _ (List.mem_of_getElem? (i := 734) (by decide +kernel))) (by decide +kernel)
abbrev mX9_addKid : MD := (yX9_addKid, cX9_addKid, 3, none)
theorem kcX9_addKid : Cond.code mX9_addKid.1 mX9_addKid.2.1 mX9_addKid.2.2.1 mX9_addKid.2.2.2 ∈ TG := TG_in (List.mem_append_right _ (List.mem_of_getElem? (i := 738) (by decide +kernel))) (by decide +kernel)
abbrev mX9_of : MD := (yX9_of, cX9_of, 3, (some .int))
theorem kcX9_of : Cond.code mX9_of.1 mX9_of.2.1 mX9_of.2.2.1 mX9_of.2.2.2 ∈ TG := TG_in (List.mem_append_right _ (List.mem_of_getElem? (i := 742) (by decide +kernel))) (by decide +kernel)
abbrev mX9_layPlaces : MD := (yX9_layPlaces, cX9_layPlaces, 5, (some .boolean))
theorem kcX9_layPlaces : Cond.code mX9_layPlaces.1 mX9_layPlaces.2.1 mX9_layPlaces.2.2.1 mX9_layPlaces.2.2.2 ∈ TG := TG_in (List.mem_append_right _ (List.mem_of_getElem? (i := 746) (by decide +kernel))) (by decide +kernel)
abbrev mX9_kid : MD := (yX9_kid, cX9_kid, 3, (some .int))
theorem kcX9_kid : Cond.code mX9_kid.1 mX9_kid.2.1 mX9_kid.2.2.1 mX9_kid.2.2.2 ∈ TG := TG_in (List.mem_append_right _ (List.mem_of_getElem? (i := 750) (by decide +kernel))) (by decide +kernel)
abbrev mX9_spareChild : MD := (yX9_spareChild, cX9_spareChild, 5, (some .int))
theorem kcX9_spareChild : Cond.code mX9_spareChild.1 mX9_spareChild.2.1 mX9_spareChild.2.2.1 mX9_spareChild.2.2.2 ∈ TG := TG_in (List.mem_append_right _ (List.mem_of_getElem? (i := 754) (by decide +kernel))) (by decide +kernel)
abbrev mX9_spareAt : MD := (yX9_spareAt, cX9_spareAt, 3, (some .int))
theorem kcX9_spareAt : Cond.code mX9_spareAt.1 mX9_spareAt.2.1 mX9_spareAt.2.2.1 mX9_spareAt.2.2.2 ∈ TG := TG_in (List.mem_append_right _ (List.mem_of_getElem? (i := 758) (by decide +kernel))) (by decide +kernel)
abbrev mX9_putBack : MD := (yX9_putBack, cX9_putBack, 2, none)
theorem kcX9_putBack : Cond.code mX9_putBack.1 mX9_putBack.2.1 mX9_putBack.2.2.1 mX9_putBack.2.2.2 ∈ TG := TG_in (List.mem_append_right _ (List.mem_of_getElem? (i := 762) (by decide +kernel))) (by decide +kernel)
abbrev mX9_record : MD := (yX9_record, cX9_record, 2, none)
theorem kcX9_record : Cond.code mX9_record.1 mX9_record.2.1 mX9_record.2.2.1 mX9_record.2.2.2 ∈ TG := TG_in (List.mem_append_right _ (List.mem_of_getElem? (i := 766) (by decide +kernel))) (by decide +kernel)
abbrev mX9_cloneTo : MD := (yX9_cloneTo, cX9_cloneTo, 6, (some .int))
theorem kcX9_cloneTo : Cond.code mX9_cloneTo.1 mX9_cloneTo.2.1 mX9_cloneTo.2.2.1 mX9_cloneTo.2.2.2 ∈ TG := TG_in (List.mem_append_right _ (List.mem_of_getElem? (i := 770) (by decide +kernel))) (by decide +kernel)
abbrev mX9_mayStand : MD := (yX9_mayStand, cX9_mayStand, 3, (some .boolean))
theorem kcX9_mayStand : Cond.code mX9_mayStand.1 mX9_mayStand.2.1 mX9_mayStand.2.2.1 mX9_mayStand.2.2.2 ∈ TG := TG_in (List.mem_append_right _ (List.mem_of_getElem? (i := 774) (by decide +kernel))) (by decide +kernel)
abbrev mX9_layWithin : MD := (yX9_layWithin, cX9_layWithin, 6, (some .int))
theorem kcX9_layWithin : Cond.code mX9_layWithin.1 mX9_layWithin.2.1 mX9_layWithin.2.2.1 mX9_layWithin.2.2.2 ∈ TG := TG_in (List.mem_append_right _ (List.mem_of_getElem? (i := 778) (by decide +kernel))) (by decide +kernel)
abbrev mX9_position : MD := (yX9_position, cX9_position, 4, (some .int))
theorem kcX9_position : Cond.code mX9_position.1 mX9_position.2.1 mX9_position.2.2.1 mX9_position.2.2.2 ∈ TG := TG_in (List.mem_append_right _ (List.mem_of_getElem? (i := 782) (by decide +kernel))) (by decide +kernel)
abbrev mX9_placesOf : MD := (yX9_placesOf, cX9_placesOf, 4, (some .int))
theorem kcX9_placesOf : Cond.code mX9_placesOf.1 mX9_placesOf.2.1 mX9_placesOf.2.2.1 mX9_placesOf.2.2.2 ∈ TG := TG_in (List.mem_append_right _ (List.mem_of_getElem? (i := 786) (by decide +kernel))) (by decide +kernel)
abbrev mX9_move : MD := (yX9_move, cX9_move, 7, (some .int))
theorem kcX9_move : Cond.code mX9_move.1 mX9_move.2.1 mX9_move.2.2.1 mX9_move.2.2.2 ∈ TG := TG_in (List.mem_append_right _ (List.mem_of_getElem? (i := 790) (by decide +kernel))) (by decide +kernel)
abbrev mX9_parent : MD := (yX9_parent, cX9_parent, 3, (some .int))
theorem kcX9_parent : Cond.code mX9_parent.1 mX9_parent.2.1 mX9_parent.2.2.1 mX9_parent.2.2.2 ∈ TG := TG_in (List.mem_append_right _ (List.mem_of_getElem? (i := 794) (by decide +kernel))) (by decide +kernel)
abbrev mX9_around : MD := (yX9_around, cX9_around, 3, (some .int))
theorem kcX9_around : Cond.code mX9_around.1 mX9_around.2.1 mX9_around.2.2.1 mX9_around.2.2.2 ∈ TG := TG_in (List.mem_append_right _ (List.mem_of_getElem? (i := 798) (by decide +kernel))) (by decide +kernel)
abbrev mX9_takeKid : MD := (yX9_takeKid, cX9_takeKid, 4, none)
theorem kcX9_takeKid : Cond.code mX9_takeKid.1 mX9_takeKid.2.1 mX9_takeKid.2.2.1 mX9_takeKid.2.2.2 ∈ TG := TG_in (List.mem_append_right _ (List.mem_of_getElem? (i := 802) (by decide +kernel))) (by decide +kernel)
abbrev mX9_cut : MD := (yX9_cut, cX9_cut, 7, (some .int))
theorem kcX9_cut : Cond.code mX9_cut.1 mX9_cut.2.1 mX9_cut.2.2.1 mX9_cut.2.2.2 ∈ TG := TG_in (List.mem_append_right _ (List.mem_of_getElem? (i := 806) (by decide +kernel))) (by decide +kernel)
abbrev mX9_shift : MD := (yX9_shift, cX9_shift, 10, (some .int))
theorem kcX9_shift : Cond.code mX9_shift.1 mX9_shift.2.1 mX9_shift.2.2.1 mX9_shift.2.2.2 ∈ TG := TG_in (List.mem_append_right _ (List.mem_of_getElem? (i := 810) (by decide +kernel))) (by decide +kernel)
abbrev mX9_edit : MD := (yX9_edit, cX9_edit, 4, (some .int))
theorem kcX9_edit : Cond.code mX9_edit.1 mX9_edit.2.1 mX9_edit.2.2.1 mX9_edit.2.2.2 ∈ TG := TG_in (List.mem_append_right _ (List.mem_of_getElem? (i := 814) (by decide +kernel))) (by decide +kernel)
abbrev mX9_hasText : MD := (yX9_hasText, cX9_hasText, 3, (some .boolean))
theorem kcX9_hasText : Cond.code mX9_hasText.1 mX9_hasText.2.1 mX9_hasText.2.2.1 mX9_hasText.2.2.2 ∈ TG := TG_in (List.mem_append_right _ (List.mem_of_getElem? (i := 818) (by decide +kernel))) (by decide +kernel)
abbrev mX9_mark : MD := (yX9_mark, cX9_mark, 5, (some .int))
theorem kcX9_mark : Cond.code mX9_mark.1 mX9_mark.2.1 mX9_mark.2.2.1 mX9_mark.2.2.2 ∈ TG := TG_in (List.mem_append_right _ (List.mem_of_getElem? (i := 822) (by decide +kernel))) (by decide +kernel)
abbrev mX9_fold : MD := (yX9_fold, cX9_fold, 5, (some .int))
theorem kcX9_fold : Cond.code mX9_fold.1 mX9_fold.2.1 mX9_fold.2.2.1 mX9_fold.2.2.2 ∈ TG := TG_in (List.mem_append_right _ (List.mem_of_getElem? (i := 826) (by decide +kernel))) (by decide +kernel)
abbrev mX9_hasKids : MD := (yX9_hasKids, cX9_hasKids, 2, (some .boolean))
theorem kcX9_hasKids : Cond.code mX9_hasKids.1 mX9_hasKids.2.1 mX9_hasKids.2.2.1 mX9_hasKids.2.2.2 ∈ TG := TG_in (List.mem_append_right _ (List.mem_of_getElem? (i := 830) (by decide +kernel))) (by decide +kernel)
abbrev mX9_rows : MD := (yX9_rows, cX9_rows, 3, (some .int))
theorem kcX9_rows : Cond.code mX9_rows.1 mX9_rows.2.1 mX9_rows.2.2.1 mX9_rows.2.2.2 ∈ TG := TG_in (List.mem_append_right _ (List.mem_of_getElem? (i := 834) (by decide +kernel))) (by decide +kernel)
abbrev mX9_foldLevel : MD := (yX9_foldLevel, cX9_foldLevel, 5, (some .int))
theorem kcX9_foldLevel : Cond.code mX9_foldLevel.1 mX9_foldLevel.2.1 mX9_foldLevel.2.2.1 mX9_foldLevel.2.2.2 ∈ TG := TG_in (List.mem_append_right _ (List.mem_of_getElem? (i := 838) (by decide +kernel))) (by decide +kernel)
abbrev mX9_show : MD := (yX9_show, cX9_show, 4, (some .int))
theorem kcX9_show : Cond.code mX9_show.1 mX9_show.2.1 mX9_show.2.2.1 mX9_show.2.2.2 ∈ TG := TG_in (List.mem_append_right _ (List.mem_of_getElem? (i := 842) (by decide +kernel))) (by decide +kernel)
abbrev mX9_isNode : MD := (yX9_isNode, cX9_isNode, 2, (some .boolean))
theorem kcX9_isNode : Cond.code mX9_isNode.1 mX9_isNode.2.1 mX9_isNode.2.2.1 mX9_isNode.2.2.2 ∈ TG := TG_in (List.mem_append_right _ (List.mem_of_getElem? (i := 846) (by decide +kernel))) (by decide +kernel)
abbrev mX9_firstPlace : MD := (yX9_firstPlace, cX9_firstPlace, 3, (some .int))
theorem kcX9_firstPlace : Cond.code mX9_firstPlace.1 mX9_firstPlace.2.1 mX9_firstPlace.2.2.1 mX9_firstPlace.2.2.2 ∈ TG := TG_in (List.mem_append_right _ (List.mem_of_getElem? (i := 850) (by decide +kernel))) (by decide +kernel)
abbrev mX9_rowOf : MD := (yX9_rowOf, cX9_rowOf, 4, (some .int))
theorem kcX9_rowOf : Cond.code mX9_rowOf.1 mX9_rowOf.2.1 mX9_rowOf.2.2.1 mX9_rowOf.2.2.2 ∈ TG := TG_in (List.mem_append_right _ (List.mem_of_getElem? (i := 854) (by decide +kernel))) (by decide +kernel)
abbrev mX9_type : MD := (yX9_type, cX9_type, 2, (some .int))
theorem kcX9_type : Cond.code mX9_type.1 mX9_type.2.1 mX9_type.2.2.1 mX9_type.2.2.2 ∈ TG := TG_in (List.mem_append_right _ (List.mem_of_getElem? (i := 858) (by decide +kernel))) (by decide +kernel)
abbrev mX9_clearText : MD := (yX9_clearText, cX9_clearText, 2, (some .int))
theorem kcX9_clearText : Cond.code mX9_clearText.1 mX9_clearText.2.1 mX9_clearText.2.2.1 mX9_clearText.2.2.2 ∈ TG := TG_in (List.mem_append_right _ (List.mem_of_getElem? (i := 862) (by decide +kernel))) (by decide +kernel)
abbrev mX9_readOutline : MD := (yX9_readOutline, cX9_readOutline, 4, (some .int))
theorem kcX9_readOutline : Cond.code mX9_readOutline.1 mX9_readOutline.2.1 mX9_readOutline.2.2.1 mX9_readOutline.2.2.2 ∈ TG := TG_in (List.mem_append_right _ (List.mem_of_getElem? (i := 866) (by decide +kernel))) (by decide +kernel)
abbrev mX9_readsFault : MD := (yX9_readsFault, cX9_readsFault, 7, (some .int))
theorem kcX9_readsFault : Cond.code mX9_readsFault.1 mX9_readsFault.2.1 mX9_readsFault.2.2.1 mX9_readsFault.2.2.2 ∈ TG := TG_in (List.mem_append_right _ (List.mem_of_getElem? (i := 870) (by decide +kernel))) (by decide +kernel)
abbrev mX9_isOpen : MD := (yX9_isOpen, cX9_isOpen, 4, (some .boolean))
theorem kcX9_isOpen : Cond.code mX9_isOpen.1 mX9_isOpen.2.1 mX9_isOpen.2.2.1 mX9_isOpen.2.2.2 ∈ TG := TG_in (List.mem_append_right _ (List.mem_of_getElem? (i := 874) (by decide +kernel))) (by decide +kernel)
abbrev mX9_stands : MD := (yX9_stands, cX9_stands, 4, (some .boolean))
theorem kcX9_stands : Cond.code mX9_stands.1 mX9_stands.2.1 mX9_stands.2.2.1 mX9_stands.2.2.2 ∈ TG := TG_in (List.mem_append_right _ (List.mem_of_getElem? (i := 878) (by decide +kernel))) (by decide +kernel)
abbrev mX9_undo : MD := (yX9_undo, cX9_undo, 2, (some .int))
theorem kcX9_undo : Cond.code mX9_undo.1 mX9_undo.2.1 mX9_undo.2.2.1 mX9_undo.2.2.2 ∈ TG := TG_in (List.mem_append_right _ (List.mem_of_getElem? (i := 882) (by decide +kernel))) (by decide +kernel)
abbrev mX9_keep : MD := (yX9_keep, cX9_keep, 2, (some .int))
theorem kcX9_keep : Cond.code mX9_keep.1 mX9_keep.2.1 mX9_keep.2.2.1 mX9_keep.2.2.2 ∈ TG := TG_in (List.mem_append_right _ (List.mem_of_getElem? (i := 886) (by decide +kernel))) (by decide +kernel)
abbrev mX9_restore : MD := (yX9_restore, cX9_restore, 2, (some .int))
theorem kcX9_restore : Cond.code mX9_restore.1 mX9_restore.2.1 mX9_restore.2.2.1 mX9_restore.2.2.2 ∈ TG := TG_in (List.mem_append_right _ (List.mem_of_getElem? (i := 890) (by decide +kernel))) (by decide +kernel)
abbrev mX9_row : MD := (yX9_row, cX9_row, 5, (some .int))
theorem kcX9_row : Cond.code mX9_row.1 mX9_row.2.1 mX9_row.2.2.1 mX9_row.2.2.2 ∈ TG := TG_in (List.mem_append_right _ (List.mem_of_getElem? (i := 894) (by decide +kernel))) (by decide +kernel)
abbrev mX9_rowsWithin : MD := (yX9_rowsWithin, cX9_rowsWithin, 4, (some .int))
theorem kcX9_rowsWithin : Cond.code mX9_rowsWithin.1 mX9_rowsWithin.2.1 mX9_rowsWithin.2.2.1 mX9_rowsWithin.2.2.2 ∈ TG := TG_in (List.mem_append_right _ (List.mem_of_getElem? (i := 898) (by decide +kernel))) (by decide +kernel)
abbrev mX9_number : MD := (yX9_number, cX9_number, 4, (some .int))
theorem kcX9_number : Cond.code mX9_number.1 mX9_number.2.1 mX9_number.2.2.1 mX9_number.2.2.2 ∈ TG := TG_in (List.mem_append_right _ (List.mem_of_getElem? (i := 902) (by decide +kernel))) (by decide +kernel)
abbrev mX9_charAt : MD := (yX9_charAt, cX9_charAt, 5, (some .int))
theorem kcX9_charAt : Cond.code mX9_charAt.1 mX9_charAt.2.1 mX9_charAt.2.2.1 mX9_charAt.2.2.2 ∈ TG := TG_in (List.mem_append_right _ (List.mem_of_getElem? (i := 906) (by decide +kernel))) (by decide +kernel)
abbrev mX9_node : MD := (yX9_node, cX9_node, 3, (some .int))
theorem kcX9_node : Cond.code mX9_node.1 mX9_node.2.1 mX9_node.2.2.1 mX9_node.2.2.2 ∈ TG := TG_in (List.mem_append_right _ (List.mem_of_getElem? (i := 910) (by decide +kernel))) (by decide +kernel)
abbrev mX9_parents : MD := (yX9_parents, cX9_parents, 4, (some .int))
theorem kcX9_parents : Cond.code mX9_parents.1 mX9_parents.2.1 mX9_parents.2.2.1 mX9_parents.2.2.2 ∈ TG := TG_in (List.mem_append_right _ (List.mem_of_getElem? (i := 914) (by decide +kernel))) (by decide +kernel)
abbrev mX9_seenPlaces : MD := (yX9_seenPlaces, cX9_seenPlaces, 4, (some .int))
theorem kcX9_seenPlaces : Cond.code mX9_seenPlaces.1 mX9_seenPlaces.2.1 mX9_seenPlaces.2.2.1 mX9_seenPlaces.2.2.2 ∈ TG := TG_in (List.mem_append_right _ (List.mem_of_getElem? (i := 918) (by decide +kernel))) (by decide +kernel)
abbrev mX9_firstRow : MD := (yX9_firstRow, cX9_firstRow, 3, (some .int))
theorem kcX9_firstRow : Cond.code mX9_firstRow.1 mX9_firstRow.2.1 mX9_firstRow.2.2.1 mX9_firstRow.2.2.2 ∈ TG := TG_in (List.mem_append_right _ (List.mem_of_getElem? (i := 922) (by decide +kernel))) (by decide +kernel)
abbrev mX9_nextMarked : MD := (yX9_nextMarked, cX9_nextMarked, 5, (some .int))
theorem kcX9_nextMarked : Cond.code mX9_nextMarked.1 mX9_nextMarked.2.1 mX9_nextMarked.2.2.1 mX9_nextMarked.2.2.2 ∈ TG := TG_in (List.mem_append_right _ (List.mem_of_getElem? (i := 926) (by decide +kernel))) (by decide +kernel)
abbrev mX9_find : MD := (yX9_find, cX9_find, 4, (some .int))
theorem kcX9_find : Cond.code mX9_find.1 mX9_find.2.1 mX9_find.2.2.1 mX9_find.2.2.2 ∈ TG := TG_in (List.mem_append_right _ (List.mem_of_getElem? (i := 930) (by decide +kernel))) (by decide +kernel)
abbrev mX9_count : MD := (yX9_count, cX9_count, 2, (some .int))
theorem kcX9_count : Cond.code mX9_count.1 mX9_count.2.1 mX9_count.2.2.1 mX9_count.2.2.2 ∈ TG := TG_in (List.mem_append_right _ (List.mem_of_getElem? (i := 934) (by decide +kernel))) (by decide +kernel)
abbrev mX9_nodes : MD := (yX9_nodes, cX9_nodes, 4, (some .int))
theorem kcX9_nodes : Cond.code mX9_nodes.1 mX9_nodes.2.1 mX9_nodes.2.2.1 mX9_nodes.2.2.2 ∈ TG := TG_in (List.mem_append_right _ (List.mem_of_getElem? (i := 938) (by decide +kernel))) (by decide +kernel)
abbrev mX9_foldedPlaces : MD := (yX9_foldedPlaces, cX9_foldedPlaces, 3, (some .int))
theorem kcX9_foldedPlaces : Cond.code mX9_foldedPlaces.1 mX9_foldedPlaces.2.1 mX9_foldedPlaces.2.2.1 mX9_foldedPlaces.2.2.2 ∈ TG := TG_in (List.mem_append_right _ (List.mem_of_getElem? (i := 942) (by decide +kernel))) (by decide +kernel)
abbrev mX9_greatestLevel : MD := (yX9_greatestLevel, cX9_greatestLevel, 3, (some .int))
theorem kcX9_greatestLevel : Cond.code mX9_greatestLevel.1 mX9_greatestLevel.2.1 mX9_greatestLevel.2.2.1 mX9_greatestLevel.2.2.2 ∈ TG := TG_in (List.mem_append_right _ (List.mem_of_getElem? (i := 946) (by decide +kernel))) (by decide +kernel)
theorem kiL : Cond.initialized RL ∈ TG := TG_in (List.mem_append_right _ (List.mem_of_getElem? (i := 0) (by decide +kernel))) (by decide +kernel)
theorem kiX8 : Cond.initialized RX8 ∈ TG := TG_in (List.mem_append_right _ (List.mem_of_getElem? (i := 1) (by decide +kernel))) (by decide +kernel)
theorem kiX7 : Cond.initialized RX7 ∈ TG := TG_in (List.mem_append_right _ (List.mem_of_getElem? (i := 2) (by decide +kernel))) (by decide +kernel)
theorem kiX4 : Cond.initialized RX4 ∈ TG := TG_in (List.mem_append_right _ (List.mem_of_getElem? (i := 3) (by decide +kernel))) (by decide +kernel)
theorem kiX5 : Cond.initialized RX5 ∈ TG := TG_in (List.mem_append_right _ (List.mem_of_getElem? (i := 4) (by decide +kernel))) (by decide +kernel)
theorem kiX0 : Cond.initialized RX0 ∈ TG := TG_in (List.mem_append_right _ (List.mem_of_getElem? (i := 5) (by decide +kernel))) (by decide +kernel)
theorem kiX6 : Cond.initialized RX6 ∈ TG := TG_in (List.mem_append_right _ (List.mem_of_getElem? (i := 6) (by decide +kernel))) (by decide +kernel)
theorem kiX2 : Cond.initialized RX2 ∈ TG := TG_in (List.mem_append_right _ (List.mem_of_getElem? (i := 7) (by decide +kernel))) (by decide +kernel)
theorem kiX1 : Cond.initialized RX1 ∈ TG := TG_in (List.mem_append_right _ (List.mem_of_getElem? (i := 8) (by decide +kernel))) (by decide +kernel)
theorem kiX3 : Cond.initialized RX3 ∈ TG := TG_in (List.mem_append_right _ (List.mem_of_getElem? (i := 9) (by decide +kernel))) (by decide +kernel)
theorem kiX9 : Cond.initialized RX9 ∈ TG := TG_in (List.mem_append_right _ (List.mem_of_getElem? (i := 10) (by decide +kernel))) (by decide +kernel)
theorem kiJ10 : Cond.initialized RJ10 ∈ TG := TG_in (List.mem_append_right _ (List.mem_of_getElem? (i := 11) (by decide +kernel))) (by decide +kernel)
theorem kiJ9 : Cond.initialized RJ9 ∈ TG := TG_in (List.mem_append_right _ (List.mem_of_getElem? (i := 12) (by decide +kernel))) (by decide +kernel)
theorem kiJ13 : Cond.initialized RJ13 ∈ TG := TG_in (List.mem_append_right _ (List.mem_of_getElem? (i := 13) (by decide +kernel))) (by decide +kernel)
theorem knX8_init : Cond.instanceMethod yX8_init ∈ TG := TG_in (List.mem_append_right _ (List.mem_of_getElem? (i := 17) (by decide +kernel))) (by decide +kernel)
theorem knX7_init : Cond.instanceMethod yX7_init ∈ TG := TG_in (List.mem_append_right _ (List.mem_of_getElem? (i := 25) (by decide +kernel))) (by decide +kernel)
theorem knX4_init : Cond.instanceMethod yX4_init ∈ TG := TG_in (List.mem_append_right _ (List.mem_of_getElem? (i := 42) (by decide +kernel))) (by decide +kernel)
theorem knX5_init : Cond.instanceMethod yX5_init ∈ TG := TG_in (List.mem_append_right _ (List.mem_of_getElem? (i := 64) (by decide +kernel))) (by decide +kernel)
theorem knX0_init : Cond.instanceMethod yX0_init ∈ TG := TG_in (List.mem_append_right _ (List.mem_of_getElem? (i := 81) (by decide +kernel))) (by decide +kernel)
theorem knX6_init : Cond.instanceMethod yX6_init ∈ TG := TG_in (List.mem_append_right _ (List.mem_of_getElem? (i := 88) (by decide +kernel))) (by decide +kernel)
theorem knX2_init : Cond.instanceMethod yX2_init ∈ TG := TG_in (List.mem_append_right _ (List.mem_of_getElem? (i := 94) (by decide +kernel))) (by decide +kernel)
theorem knX1_init : Cond.instanceMethod yX1_init ∈ TG := TG_in (List.mem_append_right _ (List.mem_of_getElem? (i := 115) (by decide +kernel))) (by decide +kernel)
theorem knX3_init : Cond.instanceMethod yX3_init ∈ TG := TG_in (List.mem_append_right _ (List.mem_of_getElem? (i := 134) (by decide +kernel))) (by decide +kernel)
theorem knX8_add : Cond.instanceMethod yX8_add ∈ TG := TG_in (List.mem_append_right _ (List.mem_of_getElem? (i := 209) (by decide +kernel))) (by decide +kernel)
theorem kvX8_add : Cond.selects yX8_add.cls yX8_add yX8_add ∈ TG := TG_in (List.mem_append_right _ (List.mem_of_getElem? (i := 210) (by decide +kernel))) (by decide +kernel)
theorem knX8_placeOrRoot : Cond.instanceMethod yX8_placeOrRoot ∈ TG := TG_in (List.mem_append_right _ (List.mem_of_getElem? (i := 214) (by decide +kernel))) (by decide +kernel)
theorem kvX8_placeOrRoot : Cond.selects yX8_placeOrRoot.cls yX8_placeOrRoot yX8_placeOrRoot ∈ TG := TG_in (List.mem_append_left _ (List.mem_of_getElem? (i := 0) (by decide +kernel))) (by decide +kernel)
theorem knX5_placeOf : Cond.instanceMethod yX5_placeOf ∈ TG := TG_in (List.mem_append_right _ (List.mem_of_getElem? (i := 217) (by decide +kernel))) (by decide +kernel)
theorem kvX5_placeOf : Cond.selects yX5_placeOf.cls yX5_placeOf yX5_placeOf ∈ TG := TG_in (List.mem_append_right _ (List.mem_of_getElem? (i := 218) (by decide +kernel))) (by decide +kernel)
theorem knX7_fitsNode : Cond.instanceMethod yX7_fitsNode ∈ TG := TG_in (List.mem_append_right _ (List.mem_of_getElem? (i := 221) (by decide +kernel))) (by decide +kernel)
theorem kvX7_fitsNode : Cond.selects yX7_fitsNode.cls yX7_fitsNode yX7_fitsNode ∈ TG := TG_in (List.mem_append_right _ (List.mem_of_getElem? (i := 222) (by decide +kernel))) (by decide +kernel)
theorem knX6_copyFrom : Cond.instanceMethod yX6_copyFrom ∈ TG := TG_in (List.mem_append_right _ (List.mem_of_getElem? (i := 225) (by decide +kernel))) (by decide +kernel)
theorem kvX6_copyFrom : Cond.selects yX6_copyFrom.cls yX6_copyFrom yX6_copyFrom ∈ TG := TG_in (List.mem_append_right _ (List.mem_of_getElem? (i := 226) (by decide +kernel))) (by decide +kernel)
theorem knX2_copyFrom : Cond.instanceMethod yX2_copyFrom ∈ TG := TG_in (List.mem_append_right _ (List.mem_of_getElem? (i := 229) (by decide +kernel))) (by decide +kernel)
theorem kvX2_copyFrom : Cond.selects yX2_copyFrom.cls yX2_copyFrom yX2_copyFrom ∈ TG := TG_in (List.mem_append_right _ (List.mem_of_getElem? (i := 230) (by decide +kernel))) (by decide +kernel)
theorem knX1_copyFrom : Cond.instanceMethod yX1_copyFrom ∈ TG := TG_in (List.mem_append_right _ (List.mem_of_getElem? (i := 236) (by decide +kernel))) (by decide +kernel)
theorem kvX1_copyFrom : Cond.selects yX1_copyFrom.cls yX1_copyFrom yX1_copyFrom ∈ TG := TG_in (List.mem_append_right _ (List.mem_of_getElem? (i := 237) (by decide +kernel))) (by decide +kernel)
theorem knX3_copyFrom : Cond.instanceMethod yX3_copyFrom ∈ TG := TG_in (List.mem_append_right _ (List.mem_of_getElem? (i := 241) (by decide +kernel))) (by decide +kernel)
theorem kvX3_copyFrom : Cond.selects yX3_copyFrom.cls yX3_copyFrom yX3_copyFrom ∈ TG := TG_in (List.mem_append_right _ (List.mem_of_getElem? (i := 242) (by decide +kernel))) (by decide +kernel)
theorem knX2_makeNode : Cond.instanceMethod yX2_makeNode ∈ TG := TG_in (List.mem_append_right _ (List.mem_of_getElem? (i := 246) (by decide +kernel))) (by decide +kernel)
theorem kvX2_makeNode : Cond.selects yX2_makeNode.cls yX2_makeNode yX2_makeNode ∈ TG := TG_in (List.mem_append_right _ (List.mem_of_getElem? (i := 247) (by decide +kernel))) (by decide +kernel)
theorem knX2_setText : Cond.instanceMethod yX2_setText ∈ TG := TG_in (List.mem_append_right _ (List.mem_of_getElem? (i := 250) (by decide +kernel))) (by decide +kernel)
theorem kvX2_setText : Cond.selects yX2_setText.cls yX2_setText yX2_setText ∈ TG := TG_in (List.mem_append_right _ (List.mem_of_getElem? (i := 251) (by decide +kernel))) (by decide +kernel)
theorem ksX2_isNumber : Cond.static yX2_isNumber ∈ TG := TG_in (List.mem_append_right _ (List.mem_of_getElem? (i := 254) (by decide +kernel))) (by decide +kernel)
theorem knX7_codeAt : Cond.instanceMethod yX7_codeAt ∈ TG := TG_in (List.mem_append_right _ (List.mem_of_getElem? (i := 258) (by decide +kernel))) (by decide +kernel)
theorem kvX7_codeAt : Cond.selects yX7_codeAt.cls yX7_codeAt yX7_codeAt ∈ TG := TG_in (List.mem_append_right _ (List.mem_of_getElem? (i := 259) (by decide +kernel))) (by decide +kernel)
theorem knX3_nodeOf : Cond.instanceMethod yX3_nodeOf ∈ TG := TG_in (List.mem_append_right _ (List.mem_of_getElem? (i := 262) (by decide +kernel))) (by decide +kernel)
theorem kvX3_nodeOf : Cond.selects yX3_nodeOf.cls yX3_nodeOf yX3_nodeOf ∈ TG := TG_in (List.mem_append_right _ (List.mem_of_getElem? (i := 263) (by decide +kernel))) (by decide +kernel)
theorem knX3_isThere : Cond.instanceMethod yX3_isThere ∈ TG := TG_in (List.mem_append_right _ (List.mem_of_getElem? (i := 267) (by decide +kernel))) (by decide +kernel)
theorem kvX3_isThere : Cond.selects yX3_isThere.cls yX3_isThere yX3_isThere ∈ TG := TG_in (List.mem_append_left _ (List.mem_of_getElem? (i := 1) (by decide +kernel))) (by decide +kernel)
theorem knX8_attach : Cond.instanceMethod yX8_attach ∈ TG := TG_in (List.mem_append_right _ (List.mem_of_getElem? (i := 271) (by decide +kernel))) (by decide +kernel)
theorem kvX8_attach : Cond.selects yX8_attach.cls yX8_attach yX8_attach ∈ TG := TG_in (List.mem_append_left _ (List.mem_of_getElem? (i := 2) (by decide +kernel))) (by decide +kernel)
theorem knX1_append : Cond.instanceMethod yX1_append ∈ TG := TG_in (List.mem_append_right _ (List.mem_of_getElem? (i := 274) (by decide +kernel))) (by decide +kernel)
theorem kvX1_append : Cond.selects yX1_append.cls yX1_append yX1_append ∈ TG := TG_in (List.mem_append_right _ (List.mem_of_getElem? (i := 275) (by decide +kernel))) (by decide +kernel)
theorem knX6_placeAgain : Cond.instanceMethod yX6_placeAgain ∈ TG := TG_in (List.mem_append_right _ (List.mem_of_getElem? (i := 278) (by decide +kernel))) (by decide +kernel)
theorem kvX6_placeAgain : Cond.selects yX6_placeAgain.cls yX6_placeAgain yX6_placeAgain ∈ TG := TG_in (List.mem_append_right _ (List.mem_of_getElem? (i := 279) (by decide +kernel))) (by decide +kernel)
theorem ksX6_grow : Cond.static yX6_grow ∈ TG := TG_in (List.mem_append_right _ (List.mem_of_getElem? (i := 282) (by decide +kernel))) (by decide +kernel)
theorem knX3_childPlace : Cond.instanceMethod yX3_childPlace ∈ TG := TG_in (List.mem_append_right _ (List.mem_of_getElem? (i := 286) (by decide +kernel))) (by decide +kernel)
theorem kvX3_childPlace : Cond.selects yX3_childPlace.cls yX3_childPlace yX3_childPlace ∈ TG := TG_in (List.mem_append_right _ (List.mem_of_getElem? (i := 287) (by decide +kernel))) (by decide +kernel)
theorem knX3_levelOf : Cond.instanceMethod yX3_levelOf ∈ TG := TG_in (List.mem_append_right _ (List.mem_of_getElem? (i := 290) (by decide +kernel))) (by decide +kernel)
theorem kvX3_levelOf : Cond.selects yX3_levelOf.cls yX3_levelOf yX3_levelOf ∈ TG := TG_in (List.mem_append_right _ (List.mem_of_getElem? (i := 291) (by decide +kernel))) (by decide +kernel)
theorem knX3_foldOf : Cond.instanceMethod yX3_foldOf ∈ TG := TG_in (List.mem_append_right _ (List.mem_of_getElem? (i := 294) (by decide +kernel))) (by decide +kernel)
theorem kvX3_foldOf : Cond.selects yX3_foldOf.cls yX3_foldOf yX3_foldOf ∈ TG := TG_in (List.mem_append_right _ (List.mem_of_getElem? (i := 295) (by decide +kernel))) (by decide +kernel)
theorem knX3_append : Cond.instanceMethod yX3_append ∈ TG := TG_in (List.mem_append_right _ (List.mem_of_getElem? (i := 298) (by decide +kernel))) (by decide +kernel)
theorem kvX3_append : Cond.selects yX3_append.cls yX3_append yX3_append ∈ TG := TG_in (List.mem_append_right _ (List.mem_of_getElem? (i := 299) (by decide +kernel))) (by decide +kernel)
theorem knX8_accept : Cond.instanceMethod yX8_accept ∈ TG := TG_in (List.mem_append_right _ (List.mem_of_getElem? (i := 303) (by decide +kernel))) (by decide +kernel)
theorem kvX8_accept : Cond.selects yX8_accept.cls yX8_accept yX8_accept ∈ TG := TG_in (List.mem_append_left _ (List.mem_of_getElem? (i := 3) (by decide +kernel))) (by decide +kernel)
theorem knX0_push : Cond.instanceMethod yX0_push ∈ TG := TG_in (List.mem_append_right _ (List.mem_of_getElem? (i := 306) (by decide +kernel))) (by decide +kernel)
theorem kvX0_push : Cond.selects yX0_push.cls yX0_push yX0_push ∈ TG := TG_in (List.mem_append_right _ (List.mem_of_getElem? (i := 307) (by decide +kernel))) (by decide +kernel)
theorem ksJ9_floorMod_7cf53 : Cond.static yJ9_floorMod_7cf53 ∈ TG := TG_in (List.mem_append_right _ (List.mem_of_getElem? (i := 310) (by decide +kernel))) (by decide +kernel)
theorem knX5_refresh : Cond.instanceMethod yX5_refresh ∈ TG := TG_in (List.mem_append_right _ (List.mem_of_getElem? (i := 314) (by decide +kernel))) (by decide +kernel)
theorem kvX5_refresh : Cond.selects yX5_refresh.cls yX5_refresh yX5_refresh ∈ TG := TG_in (List.mem_append_right _ (List.mem_of_getElem? (i := 315) (by decide +kernel))) (by decide +kernel)
theorem knX3_countOf : Cond.instanceMethod yX3_countOf ∈ TG := TG_in (List.mem_append_right _ (List.mem_of_getElem? (i := 318) (by decide +kernel))) (by decide +kernel)
theorem kvX3_countOf : Cond.selects yX3_countOf.cls yX3_countOf yX3_countOf ∈ TG := TG_in (List.mem_append_right _ (List.mem_of_getElem? (i := 319) (by decide +kernel))) (by decide +kernel)
theorem knX8_cloneTo : Cond.instanceMethod yX8_cloneTo ∈ TG := TG_in (List.mem_append_right _ (List.mem_of_getElem? (i := 322) (by decide +kernel))) (by decide +kernel)
theorem kvX8_cloneTo : Cond.selects yX8_cloneTo.cls yX8_cloneTo yX8_cloneTo ∈ TG := TG_in (List.mem_append_right _ (List.mem_of_getElem? (i := 323) (by decide +kernel))) (by decide +kernel)
theorem knX8_refusalOfParent : Cond.instanceMethod yX8_refusalOfParent ∈ TG := TG_in (List.mem_append_right _ (List.mem_of_getElem? (i := 327) (by decide +kernel))) (by decide +kernel)
theorem kvX8_refusalOfParent : Cond.selects yX8_refusalOfParent.cls yX8_refusalOfParent yX8_refusalOfParent ∈ TG := TG_in (List.mem_append_left _ (List.mem_of_getElem? (i := 4) (by decide +kernel))) (by decide +kernel)
theorem knX3_nodesWithin : Cond.instanceMethod yX3_nodesWithin ∈ TG := TG_in (List.mem_append_right _ (List.mem_of_getElem? (i := 330) (by decide +kernel))) (by decide +kernel)
theorem kvX3_nodesWithin : Cond.selects yX3_nodesWithin.cls yX3_nodesWithin yX3_nodesWithin ∈ TG := TG_in (List.mem_append_right _ (List.mem_of_getElem? (i := 331) (by decide +kernel))) (by decide +kernel)
theorem knX3_endOf : Cond.instanceMethod yX3_endOf ∈ TG := TG_in (List.mem_append_right _ (List.mem_of_getElem? (i := 334) (by decide +kernel))) (by decide +kernel)
theorem kvX3_endOf : Cond.selects yX3_endOf.cls yX3_endOf yX3_endOf ∈ TG := TG_in (List.mem_append_right _ (List.mem_of_getElem? (i := 335) (by decide +kernel))) (by decide +kernel)
theorem ksJ9_max_7cf53 : Cond.static yJ9_max_7cf53 ∈ TG := TG_in (List.mem_append_right _ (List.mem_of_getElem? (i := 338) (by decide +kernel))) (by decide +kernel)
theorem knX1_indexOf : Cond.instanceMethod yX1_indexOf ∈ TG := TG_in (List.mem_append_right _ (List.mem_of_getElem? (i := 341) (by decide +kernel))) (by decide +kernel)
theorem kvX1_indexOf : Cond.selects yX1_indexOf.cls yX1_indexOf yX1_indexOf ∈ TG := TG_in (List.mem_append_right _ (List.mem_of_getElem? (i := 342) (by decide +kernel))) (by decide +kernel)
theorem knX8_nodeOfRow : Cond.instanceMethod yX8_nodeOfRow ∈ TG := TG_in (List.mem_append_right _ (List.mem_of_getElem? (i := 346) (by decide +kernel))) (by decide +kernel)
theorem kvX8_nodeOfRow : Cond.selects yX8_nodeOfRow.cls yX8_nodeOfRow yX8_nodeOfRow ∈ TG := TG_in (List.mem_append_left _ (List.mem_of_getElem? (i := 5) (by decide +kernel))) (by decide +kernel)
theorem knX8_move : Cond.instanceMethod yX8_move ∈ TG := TG_in (List.mem_append_right _ (List.mem_of_getElem? (i := 349) (by decide +kernel))) (by decide +kernel)
theorem kvX8_move : Cond.selects yX8_move.cls yX8_move yX8_move ∈ TG := TG_in (List.mem_append_right _ (List.mem_of_getElem? (i := 350) (by decide +kernel))) (by decide +kernel)
theorem knX8_parentNodeOf : Cond.instanceMethod yX8_parentNodeOf ∈ TG := TG_in (List.mem_append_right _ (List.mem_of_getElem? (i := 354) (by decide +kernel))) (by decide +kernel)
theorem kvX8_parentNodeOf : Cond.selects yX8_parentNodeOf.cls yX8_parentNodeOf yX8_parentNodeOf ∈ TG := TG_in (List.mem_append_left _ (List.mem_of_getElem? (i := 6) (by decide +kernel))) (by decide +kernel)
theorem knX3_parentOf : Cond.instanceMethod yX3_parentOf ∈ TG := TG_in (List.mem_append_right _ (List.mem_of_getElem? (i := 357) (by decide +kernel))) (by decide +kernel)
theorem kvX3_parentOf : Cond.selects yX3_parentOf.cls yX3_parentOf yX3_parentOf ∈ TG := TG_in (List.mem_append_right _ (List.mem_of_getElem? (i := 358) (by decide +kernel))) (by decide +kernel)
theorem knX3_atLevel : Cond.instanceMethod yX3_atLevel ∈ TG := TG_in (List.mem_append_right _ (List.mem_of_getElem? (i := 361) (by decide +kernel))) (by decide +kernel)
theorem kvX3_atLevel : Cond.selects yX3_atLevel.cls yX3_atLevel yX3_atLevel ∈ TG := TG_in (List.mem_append_right _ (List.mem_of_getElem? (i := 362) (by decide +kernel))) (by decide +kernel)
theorem ksJ9_min_7cf53 : Cond.static yJ9_min_7cf53 ∈ TG := TG_in (List.mem_append_right _ (List.mem_of_getElem? (i := 365) (by decide +kernel))) (by decide +kernel)
theorem knX1_drop : Cond.instanceMethod yX1_drop ∈ TG := TG_in (List.mem_append_right _ (List.mem_of_getElem? (i := 368) (by decide +kernel))) (by decide +kernel)
theorem kvX1_drop : Cond.selects yX1_drop.cls yX1_drop yX1_drop ∈ TG := TG_in (List.mem_append_right _ (List.mem_of_getElem? (i := 369) (by decide +kernel))) (by decide +kernel)
theorem knX8_cut : Cond.instanceMethod yX8_cut ∈ TG := TG_in (List.mem_append_right _ (List.mem_of_getElem? (i := 373) (by decide +kernel))) (by decide +kernel)
theorem kvX8_cut : Cond.selects yX8_cut.cls yX8_cut yX8_cut ∈ TG := TG_in (List.mem_append_right _ (List.mem_of_getElem? (i := 374) (by decide +kernel))) (by decide +kernel)
theorem knX3_nodeSet : Cond.instanceMethod yX3_nodeSet ∈ TG := TG_in (List.mem_append_right _ (List.mem_of_getElem? (i := 377) (by decide +kernel))) (by decide +kernel)
theorem kvX3_nodeSet : Cond.selects yX3_nodeSet.cls yX3_nodeSet yX3_nodeSet ∈ TG := TG_in (List.mem_append_right _ (List.mem_of_getElem? (i := 378) (by decide +kernel))) (by decide +kernel)
theorem knX6_dropVanished : Cond.instanceMethod yX6_dropVanished ∈ TG := TG_in (List.mem_append_right _ (List.mem_of_getElem? (i := 382) (by decide +kernel))) (by decide +kernel)
theorem kvX6_dropVanished : Cond.selects yX6_dropVanished.cls yX6_dropVanished yX6_dropVanished ∈ TG := TG_in (List.mem_append_right _ (List.mem_of_getElem? (i := 383) (by decide +kernel))) (by decide +kernel)
theorem knX1_keepParents : Cond.instanceMethod yX1_keepParents ∈ TG := TG_in (List.mem_append_right _ (List.mem_of_getElem? (i := 387) (by decide +kernel))) (by decide +kernel)
theorem kvX1_keepParents : Cond.selects yX1_keepParents.cls yX1_keepParents yX1_keepParents ∈ TG := TG_in (List.mem_append_right _ (List.mem_of_getElem? (i := 388) (by decide +kernel))) (by decide +kernel)
theorem ksJ13_bitCount_95d88 : Cond.static yJ13_bitCount_95d88 ∈ TG := TG_in (List.mem_append_right _ (List.mem_of_getElem? (i := 392) (by decide +kernel))) (by decide +kernel)
theorem knX8_shift : Cond.instanceMethod yX8_shift ∈ TG := TG_in (List.mem_append_right _ (List.mem_of_getElem? (i := 398) (by decide +kernel))) (by decide +kernel)
theorem kvX8_shift : Cond.selects yX8_shift.cls yX8_shift yX8_shift ∈ TG := TG_in (List.mem_append_right _ (List.mem_of_getElem? (i := 399) (by decide +kernel))) (by decide +kernel)
theorem knX1_position : Cond.instanceMethod yX1_position ∈ TG := TG_in (List.mem_append_right _ (List.mem_of_getElem? (i := 402) (by decide +kernel))) (by decide +kernel)
theorem kvX1_position : Cond.selects yX1_position.cls yX1_position yX1_position ∈ TG := TG_in (List.mem_append_right _ (List.mem_of_getElem? (i := 403) (by decide +kernel))) (by decide +kernel)
theorem knX1_childCount : Cond.instanceMethod yX1_childCount ∈ TG := TG_in (List.mem_append_right _ (List.mem_of_getElem? (i := 406) (by decide +kernel))) (by decide +kernel)
theorem kvX1_childCount : Cond.selects yX1_childCount.cls yX1_childCount yX1_childCount ∈ TG := TG_in (List.mem_append_right _ (List.mem_of_getElem? (i := 407) (by decide +kernel))) (by decide +kernel)
theorem knX1_shiftChild : Cond.instanceMethod yX1_shiftChild ∈ TG := TG_in (List.mem_append_right _ (List.mem_of_getElem? (i := 410) (by decide +kernel))) (by decide +kernel)
theorem kvX1_shiftChild : Cond.selects yX1_shiftChild.cls yX1_shiftChild yX1_shiftChild ∈ TG := TG_in (List.mem_append_right _ (List.mem_of_getElem? (i := 411) (by decide +kernel))) (by decide +kernel)
theorem ksJ9_abs_0f7a4 : Cond.static yJ9_abs_0f7a4 ∈ TG := TG_in (List.mem_append_right _ (List.mem_of_getElem? (i := 414) (by decide +kernel))) (by decide +kernel)
theorem knX8_edit : Cond.instanceMethod yX8_edit ∈ TG := TG_in (List.mem_append_right _ (List.mem_of_getElem? (i := 417) (by decide +kernel))) (by decide +kernel)
theorem kvX8_edit : Cond.selects yX8_edit.cls yX8_edit yX8_edit ∈ TG := TG_in (List.mem_append_right _ (List.mem_of_getElem? (i := 418) (by decide +kernel))) (by decide +kernel)
theorem knX2_hasText : Cond.instanceMethod yX2_hasText ∈ TG := TG_in (List.mem_append_right _ (List.mem_of_getElem? (i := 421) (by decide +kernel))) (by decide +kernel)
theorem kvX2_hasText : Cond.selects yX2_hasText.cls yX2_hasText yX2_hasText ∈ TG := TG_in (List.mem_append_right _ (List.mem_of_getElem? (i := 422) (by decide +kernel))) (by decide +kernel)
theorem knX2_lengthOf : Cond.instanceMethod yX2_lengthOf ∈ TG := TG_in (List.mem_append_right _ (List.mem_of_getElem? (i := 425) (by decide +kernel))) (by decide +kernel)
theorem kvX2_lengthOf : Cond.selects yX2_lengthOf.cls yX2_lengthOf yX2_lengthOf ∈ TG := TG_in (List.mem_append_right _ (List.mem_of_getElem? (i := 426) (by decide +kernel))) (by decide +kernel)
theorem knX2_codeAt : Cond.instanceMethod yX2_codeAt ∈ TG := TG_in (List.mem_append_right _ (List.mem_of_getElem? (i := 429) (by decide +kernel))) (by decide +kernel)
theorem kvX2_codeAt : Cond.selects yX2_codeAt.cls yX2_codeAt yX2_codeAt ∈ TG := TG_in (List.mem_append_right _ (List.mem_of_getElem? (i := 430) (by decide +kernel))) (by decide +kernel)
theorem knX8_mark : Cond.instanceMethod yX8_mark ∈ TG := TG_in (List.mem_append_right _ (List.mem_of_getElem? (i := 433) (by decide +kernel))) (by decide +kernel)
theorem kvX8_mark : Cond.selects yX8_mark.cls yX8_mark yX8_mark ∈ TG := TG_in (List.mem_append_right _ (List.mem_of_getElem? (i := 434) (by decide +kernel))) (by decide +kernel)
theorem ksX8_isMark : Cond.static yX8_isMark ∈ TG := TG_in (List.mem_append_right _ (List.mem_of_getElem? (i := 437) (by decide +kernel))) (by decide +kernel)
theorem knX2_toggleMark : Cond.instanceMethod yX2_toggleMark ∈ TG := TG_in (List.mem_append_right _ (List.mem_of_getElem? (i := 440) (by decide +kernel))) (by decide +kernel)
theorem kvX2_toggleMark : Cond.selects yX2_toggleMark.cls yX2_toggleMark yX2_toggleMark ∈ TG := TG_in (List.mem_append_right _ (List.mem_of_getElem? (i := 441) (by decide +kernel))) (by decide +kernel)
theorem knX2_marksOf : Cond.instanceMethod yX2_marksOf ∈ TG := TG_in (List.mem_append_right _ (List.mem_of_getElem? (i := 445) (by decide +kernel))) (by decide +kernel)
theorem kvX2_marksOf : Cond.selects yX2_marksOf.cls yX2_marksOf yX2_marksOf ∈ TG := TG_in (List.mem_append_right _ (List.mem_of_getElem? (i := 446) (by decide +kernel))) (by decide +kernel)
theorem knX8_fold : Cond.instanceMethod yX8_fold ∈ TG := TG_in (List.mem_append_right _ (List.mem_of_getElem? (i := 449) (by decide +kernel))) (by decide +kernel)
theorem kvX8_fold : Cond.selects yX8_fold.cls yX8_fold yX8_fold ∈ TG := TG_in (List.mem_append_right _ (List.mem_of_getElem? (i := 450) (by decide +kernel))) (by decide +kernel)
theorem knX3_hasChildren : Cond.instanceMethod yX3_hasChildren ∈ TG := TG_in (List.mem_append_right _ (List.mem_of_getElem? (i := 453) (by decide +kernel))) (by decide +kernel)
theorem kvX3_hasChildren : Cond.selects yX3_hasChildren.cls yX3_hasChildren yX3_hasChildren ∈ TG := TG_in (List.mem_append_right _ (List.mem_of_getElem? (i := 454) (by decide +kernel))) (by decide +kernel)
theorem knX3_setFold : Cond.instanceMethod yX3_setFold ∈ TG := TG_in (List.mem_append_right _ (List.mem_of_getElem? (i := 458) (by decide +kernel))) (by decide +kernel)
theorem kvX3_setFold : Cond.selects yX3_setFold.cls yX3_setFold yX3_setFold ∈ TG := TG_in (List.mem_append_right _ (List.mem_of_getElem? (i := 459) (by decide +kernel))) (by decide +kernel)
theorem knX8_foldLevel : Cond.instanceMethod yX8_foldLevel ∈ TG := TG_in (List.mem_append_right _ (List.mem_of_getElem? (i := 462) (by decide +kernel))) (by decide +kernel)
theorem kvX8_foldLevel : Cond.selects yX8_foldLevel.cls yX8_foldLevel yX8_foldLevel ∈ TG := TG_in (List.mem_append_right _ (List.mem_of_getElem? (i := 463) (by decide +kernel))) (by decide +kernel)
theorem knX3_foldAtLevel : Cond.instanceMethod yX3_foldAtLevel ∈ TG := TG_in (List.mem_append_right _ (List.mem_of_getElem? (i := 466) (by decide +kernel))) (by decide +kernel)
theorem kvX3_foldAtLevel : Cond.selects yX3_foldAtLevel.cls yX3_foldAtLevel yX3_foldAtLevel ∈ TG := TG_in (List.mem_append_right _ (List.mem_of_getElem? (i := 467) (by decide +kernel))) (by decide +kernel)
theorem knX8_show : Cond.instanceMethod yX8_show ∈ TG := TG_in (List.mem_append_right _ (List.mem_of_getElem? (i := 471) (by decide +kernel))) (by decide +kernel)
theorem kvX8_show : Cond.selects yX8_show.cls yX8_show yX8_show ∈ TG := TG_in (List.mem_append_right _ (List.mem_of_getElem? (i := 472) (by decide +kernel))) (by decide +kernel)
theorem knX3_firstOf : Cond.instanceMethod yX3_firstOf ∈ TG := TG_in (List.mem_append_right _ (List.mem_of_getElem? (i := 475) (by decide +kernel))) (by decide +kernel)
theorem kvX3_firstOf : Cond.selects yX3_firstOf.cls yX3_firstOf yX3_firstOf ∈ TG := TG_in (List.mem_append_right _ (List.mem_of_getElem? (i := 476) (by decide +kernel))) (by decide +kernel)
theorem knX3_unfoldAround : Cond.instanceMethod yX3_unfoldAround ∈ TG := TG_in (List.mem_append_right _ (List.mem_of_getElem? (i := 479) (by decide +kernel))) (by decide +kernel)
theorem kvX3_unfoldAround : Cond.selects yX3_unfoldAround.cls yX3_unfoldAround yX3_unfoldAround ∈ TG := TG_in (List.mem_append_right _ (List.mem_of_getElem? (i := 480) (by decide +kernel))) (by decide +kernel)
theorem knX5_rowOf : Cond.instanceMethod yX5_rowOf ∈ TG := TG_in (List.mem_append_right _ (List.mem_of_getElem? (i := 483) (by decide +kernel))) (by decide +kernel)
theorem kvX5_rowOf : Cond.selects yX5_rowOf.cls yX5_rowOf yX5_rowOf ∈ TG := TG_in (List.mem_append_right _ (List.mem_of_getElem? (i := 484) (by decide +kernel))) (by decide +kernel)
theorem knX8_type : Cond.instanceMethod yX8_type ∈ TG := TG_in (List.mem_append_right _ (List.mem_of_getElem? (i := 487) (by decide +kernel))) (by decide +kernel)
theorem kvX8_type : Cond.selects yX8_type.cls yX8_type yX8_type ∈ TG := TG_in (List.mem_append_right _ (List.mem_of_getElem? (i := 488) (by decide +kernel))) (by decide +kernel)
theorem knX7_append : Cond.instanceMethod yX7_append ∈ TG := TG_in (List.mem_append_right _ (List.mem_of_getElem? (i := 491) (by decide +kernel))) (by decide +kernel)
theorem kvX7_append : Cond.selects yX7_append.cls yX7_append yX7_append ∈ TG := TG_in (List.mem_append_right _ (List.mem_of_getElem? (i := 492) (by decide +kernel))) (by decide +kernel)
theorem knX8_clearText : Cond.instanceMethod yX8_clearText ∈ TG := TG_in (List.mem_append_right _ (List.mem_of_getElem? (i := 495) (by decide +kernel))) (by decide +kernel)
theorem kvX8_clearText : Cond.selects yX8_clearText.cls yX8_clearText yX8_clearText ∈ TG := TG_in (List.mem_append_right _ (List.mem_of_getElem? (i := 496) (by decide +kernel))) (by decide +kernel)
theorem knX8_readOutline : Cond.instanceMethod yX8_readOutline ∈ TG := TG_in (List.mem_append_right _ (List.mem_of_getElem? (i := 499) (by decide +kernel))) (by decide +kernel)
theorem kvX8_readOutline : Cond.selects yX8_readOutline.cls yX8_readOutline yX8_readOutline ∈ TG := TG_in (List.mem_append_right _ (List.mem_of_getElem? (i := 500) (by decide +kernel))) (by decide +kernel)
theorem knX6_clearNodes : Cond.instanceMethod yX6_clearNodes ∈ TG := TG_in (List.mem_append_right _ (List.mem_of_getElem? (i := 503) (by decide +kernel))) (by decide +kernel)
theorem kvX6_clearNodes : Cond.selects yX6_clearNodes.cls yX6_clearNodes yX6_clearNodes ∈ TG := TG_in (List.mem_append_right _ (List.mem_of_getElem? (i := 504) (by decide +kernel))) (by decide +kernel)
theorem knX4_read : Cond.instanceMethod yX4_read ∈ TG := TG_in (List.mem_append_right _ (List.mem_of_getElem? (i := 507) (by decide +kernel))) (by decide +kernel)
theorem kvX4_read : Cond.selects yX4_read.cls yX4_read yX4_read ∈ TG := TG_in (List.mem_append_right _ (List.mem_of_getElem? (i := 508) (by decide +kernel))) (by decide +kernel)
theorem knX4_begin : Cond.instanceMethod yX4_begin ∈ TG := TG_in (List.mem_append_right _ (List.mem_of_getElem? (i := 512) (by decide +kernel))) (by decide +kernel)
theorem kvX4_begin : Cond.selects yX4_begin.cls yX4_begin yX4_begin ∈ TG := TG_in (List.mem_append_left _ (List.mem_of_getElem? (i := 7) (by decide +kernel))) (by decide +kernel)
theorem knX4_takeLetter : Cond.instanceMethod yX4_takeLetter ∈ TG := TG_in (List.mem_append_right _ (List.mem_of_getElem? (i := 517) (by decide +kernel))) (by decide +kernel)
theorem kvX4_takeLetter : Cond.selects yX4_takeLetter.cls yX4_takeLetter yX4_takeLetter ∈ TG := TG_in (List.mem_append_left _ (List.mem_of_getElem? (i := 8) (by decide +kernel))) (by decide +kernel)
theorem knX2_setLetter : Cond.instanceMethod yX2_setLetter ∈ TG := TG_in (List.mem_append_right _ (List.mem_of_getElem? (i := 521) (by decide +kernel))) (by decide +kernel)
theorem kvX2_setLetter : Cond.selects yX2_setLetter.cls yX2_setLetter yX2_setLetter ∈ TG := TG_in (List.mem_append_right _ (List.mem_of_getElem? (i := 522) (by decide +kernel))) (by decide +kernel)
theorem knX4_isOpen : Cond.instanceMethod yX4_isOpen ∈ TG := TG_in (List.mem_append_right _ (List.mem_of_getElem? (i := 526) (by decide +kernel))) (by decide +kernel)
theorem kvX4_isOpen : Cond.selects yX4_isOpen.cls yX4_isOpen yX4_isOpen ∈ TG := TG_in (List.mem_append_left _ (List.mem_of_getElem? (i := 9) (by decide +kernel))) (by decide +kernel)
theorem knX4_takeSign : Cond.instanceMethod yX4_takeSign ∈ TG := TG_in (List.mem_append_right _ (List.mem_of_getElem? (i := 532) (by decide +kernel))) (by decide +kernel)
theorem kvX4_takeSign : Cond.selects yX4_takeSign.cls yX4_takeSign yX4_takeSign ∈ TG := TG_in (List.mem_append_left _ (List.mem_of_getElem? (i := 10) (by decide +kernel))) (by decide +kernel)
theorem knX6_placeAnew : Cond.instanceMethod yX6_placeAnew ∈ TG := TG_in (List.mem_append_right _ (List.mem_of_getElem? (i := 535) (by decide +kernel))) (by decide +kernel)
theorem kvX6_placeAnew : Cond.selects yX6_placeAnew.cls yX6_placeAnew yX6_placeAnew ∈ TG := TG_in (List.mem_append_right _ (List.mem_of_getElem? (i := 536) (by decide +kernel))) (by decide +kernel)
theorem knX8_undo : Cond.instanceMethod yX8_undo ∈ TG := TG_in (List.mem_append_right _ (List.mem_of_getElem? (i := 539) (by decide +kernel))) (by decide +kernel)
theorem kvX8_undo : Cond.selects yX8_undo.cls yX8_undo yX8_undo ∈ TG := TG_in (List.mem_append_right _ (List.mem_of_getElem? (i := 540) (by decide +kernel))) (by decide +kernel)
theorem knX0_popInto : Cond.instanceMethod yX0_popInto ∈ TG := TG_in (List.mem_append_right _ (List.mem_of_getElem? (i := 543) (by decide +kernel))) (by decide +kernel)
theorem kvX0_popInto : Cond.selects yX0_popInto.cls yX0_popInto yX0_popInto ∈ TG := TG_in (List.mem_append_right _ (List.mem_of_getElem? (i := 544) (by decide +kernel))) (by decide +kernel)
theorem knX8_keep : Cond.instanceMethod yX8_keep ∈ TG := TG_in (List.mem_append_right _ (List.mem_of_getElem? (i := 547) (by decide +kernel))) (by decide +kernel)
theorem kvX8_keep : Cond.selects yX8_keep.cls yX8_keep yX8_keep ∈ TG := TG_in (List.mem_append_right _ (List.mem_of_getElem? (i := 548) (by decide +kernel))) (by decide +kernel)
theorem knX8_restore : Cond.instanceMethod yX8_restore ∈ TG := TG_in (List.mem_append_right _ (List.mem_of_getElem? (i := 551) (by decide +kernel))) (by decide +kernel)
theorem kvX8_restore : Cond.selects yX8_restore.cls yX8_restore yX8_restore ∈ TG := TG_in (List.mem_append_right _ (List.mem_of_getElem? (i := 552) (by decide +kernel))) (by decide +kernel)
theorem knX8_row : Cond.instanceMethod yX8_row ∈ TG := TG_in (List.mem_append_right _ (List.mem_of_getElem? (i := 555) (by decide +kernel))) (by decide +kernel)
theorem kvX8_row : Cond.selects yX8_row.cls yX8_row yX8_row ∈ TG := TG_in (List.mem_append_right _ (List.mem_of_getElem? (i := 556) (by decide +kernel))) (by decide +kernel)
theorem knX8_positionAt : Cond.instanceMethod yX8_positionAt ∈ TG := TG_in (List.mem_append_right _ (List.mem_of_getElem? (i := 561) (by decide +kernel))) (by decide +kernel)
theorem kvX8_positionAt : Cond.selects yX8_positionAt.cls yX8_positionAt yX8_positionAt ∈ TG := TG_in (List.mem_append_left _ (List.mem_of_getElem? (i := 11) (by decide +kernel))) (by decide +kernel)
theorem knX8_parentRow : Cond.instanceMethod yX8_parentRow ∈ TG := TG_in (List.mem_append_right _ (List.mem_of_getElem? (i := 565) (by decide +kernel))) (by decide +kernel)
theorem kvX8_parentRow : Cond.selects yX8_parentRow.cls yX8_parentRow yX8_parentRow ∈ TG := TG_in (List.mem_append_left _ (List.mem_of_getElem? (i := 12) (by decide +kernel))) (by decide +kernel)
theorem knX5_seenBetween : Cond.instanceMethod yX5_seenBetween ∈ TG := TG_in (List.mem_append_right _ (List.mem_of_getElem? (i := 569) (by decide +kernel))) (by decide +kernel)
theorem kvX5_seenBetween : Cond.selects yX5_seenBetween.cls yX5_seenBetween yX5_seenBetween ∈ TG := TG_in (List.mem_append_right _ (List.mem_of_getElem? (i := 570) (by decide +kernel))) (by decide +kernel)
theorem knX8_number : Cond.instanceMethod yX8_number ∈ TG := TG_in (List.mem_append_right _ (List.mem_of_getElem? (i := 574) (by decide +kernel))) (by decide +kernel)
theorem kvX8_number : Cond.selects yX8_number.cls yX8_number yX8_number ∈ TG := TG_in (List.mem_append_right _ (List.mem_of_getElem? (i := 575) (by decide +kernel))) (by decide +kernel)
theorem knX8_charAt : Cond.instanceMethod yX8_charAt ∈ TG := TG_in (List.mem_append_right _ (List.mem_of_getElem? (i := 579) (by decide +kernel))) (by decide +kernel)
theorem kvX8_charAt : Cond.selects yX8_charAt.cls yX8_charAt yX8_charAt ∈ TG := TG_in (List.mem_append_right _ (List.mem_of_getElem? (i := 580) (by decide +kernel))) (by decide +kernel)
theorem knX8_node : Cond.instanceMethod yX8_node ∈ TG := TG_in (List.mem_append_right _ (List.mem_of_getElem? (i := 585) (by decide +kernel))) (by decide +kernel)
theorem kvX8_node : Cond.selects yX8_node.cls yX8_node yX8_node ∈ TG := TG_in (List.mem_append_right _ (List.mem_of_getElem? (i := 586) (by decide +kernel))) (by decide +kernel)
theorem knX1_parentCount : Cond.instanceMethod yX1_parentCount ∈ TG := TG_in (List.mem_append_right _ (List.mem_of_getElem? (i := 589) (by decide +kernel))) (by decide +kernel)
theorem kvX1_parentCount : Cond.selects yX1_parentCount.cls yX1_parentCount yX1_parentCount ∈ TG := TG_in (List.mem_append_right _ (List.mem_of_getElem? (i := 590) (by decide +kernel))) (by decide +kernel)
theorem knX5_seenOf : Cond.instanceMethod yX5_seenOf ∈ TG := TG_in (List.mem_append_right _ (List.mem_of_getElem? (i := 593) (by decide +kernel))) (by decide +kernel)
theorem kvX5_seenOf : Cond.selects yX5_seenOf.cls yX5_seenOf yX5_seenOf ∈ TG := TG_in (List.mem_append_right _ (List.mem_of_getElem? (i := 594) (by decide +kernel))) (by decide +kernel)
theorem knX5_firstOf : Cond.instanceMethod yX5_firstOf ∈ TG := TG_in (List.mem_append_right _ (List.mem_of_getElem? (i := 598) (by decide +kernel))) (by decide +kernel)
theorem kvX5_firstOf : Cond.selects yX5_firstOf.cls yX5_firstOf yX5_firstOf ∈ TG := TG_in (List.mem_append_right _ (List.mem_of_getElem? (i := 599) (by decide +kernel))) (by decide +kernel)
theorem knX8_nextMarked : Cond.instanceMethod yX8_nextMarked ∈ TG := TG_in (List.mem_append_right _ (List.mem_of_getElem? (i := 603) (by decide +kernel))) (by decide +kernel)
theorem kvX8_nextMarked : Cond.selects yX8_nextMarked.cls yX8_nextMarked yX8_nextMarked ∈ TG := TG_in (List.mem_append_right _ (List.mem_of_getElem? (i := 604) (by decide +kernel))) (by decide +kernel)
theorem knX8_find : Cond.instanceMethod yX8_find ∈ TG := TG_in (List.mem_append_right _ (List.mem_of_getElem? (i := 607) (by decide +kernel))) (by decide +kernel)
theorem kvX8_find : Cond.selects yX8_find.cls yX8_find yX8_find ∈ TG := TG_in (List.mem_append_right _ (List.mem_of_getElem? (i := 608) (by decide +kernel))) (by decide +kernel)
theorem knX8_count : Cond.instanceMethod yX8_count ∈ TG := TG_in (List.mem_append_right _ (List.mem_of_getElem? (i := 611) (by decide +kernel))) (by decide +kernel)
theorem kvX8_count : Cond.selects yX8_count.cls yX8_count yX8_count ∈ TG := TG_in (List.mem_append_right _ (List.mem_of_getElem? (i := 612) (by decide +kernel))) (by decide +kernel)
theorem knX3_foldedCount : Cond.instanceMethod yX3_foldedCount ∈ TG := TG_in (List.mem_append_right _ (List.mem_of_getElem? (i := 615) (by decide +kernel))) (by decide +kernel)
theorem kvX3_foldedCount : Cond.selects yX3_foldedCount.cls yX3_foldedCount yX3_foldedCount ∈ TG := TG_in (List.mem_append_right _ (List.mem_of_getElem? (i := 616) (by decide +kernel))) (by decide +kernel)
theorem knX1_sharedCount : Cond.instanceMethod yX1_sharedCount ∈ TG := TG_in (List.mem_append_right _ (List.mem_of_getElem? (i := 619) (by decide +kernel))) (by decide +kernel)
theorem kvX1_sharedCount : Cond.selects yX1_sharedCount.cls yX1_sharedCount yX1_sharedCount ∈ TG := TG_in (List.mem_append_right _ (List.mem_of_getElem? (i := 620) (by decide +kernel))) (by decide +kernel)
theorem knX3_greatestLevel : Cond.instanceMethod yX3_greatestLevel ∈ TG := TG_in (List.mem_append_right _ (List.mem_of_getElem? (i := 624) (by decide +kernel))) (by decide +kernel)
theorem kvX3_greatestLevel : Cond.selects yX3_greatestLevel.cls yX3_greatestLevel yX3_greatestLevel ∈ TG := TG_in (List.mem_append_right _ (List.mem_of_getElem? (i := 625) (by decide +kernel))) (by decide +kernel)
theorem knX9_init : Cond.instanceMethod yX9_init ∈ TG := TG_in (List.mem_append_right _ (List.mem_of_getElem? (i := 630) (by decide +kernel))) (by decide +kernel)
theorem knX9_add : Cond.instanceMethod yX9_add ∈ TG := TG_in (List.mem_append_right _ (List.mem_of_getElem? (i := 697) (by decide +kernel))) (by decide +kernel)
theorem kvX9_add : Cond.selects yX9_add.cls yX9_add yX9_add ∈ TG := TG_in (List.mem_append_right _ (List.mem_of_getElem? (i := 698) (by decide +kernel))) (by decide +kernel)
theorem knX9_nodeOf : Cond.instanceMethod yX9_nodeOf ∈ TG := TG_in (List.mem_append_right _ (List.mem_of_getElem? (i := 702) (by decide +kernel))) (by decide +kernel)
theorem kvX9_nodeOf : Cond.selects yX9_nodeOf.cls yX9_nodeOf yX9_nodeOf ∈ TG := TG_in (List.mem_append_left _ (List.mem_of_getElem? (i := 13) (by decide +kernel))) (by decide +kernel)
theorem knX9_placeOf : Cond.instanceMethod yX9_placeOf ∈ TG := TG_in (List.mem_append_right _ (List.mem_of_getElem? (i := 706) (by decide +kernel))) (by decide +kernel)
theorem kvX9_placeOf : Cond.selects yX9_placeOf.cls yX9_placeOf yX9_placeOf ∈ TG := TG_in (List.mem_append_left _ (List.mem_of_getElem? (i := 14) (by decide +kernel))) (by decide +kernel)
theorem knX9_isSeen : Cond.instanceMethod yX9_isSeen ∈ TG := TG_in (List.mem_append_right _ (List.mem_of_getElem? (i := 710) (by decide +kernel))) (by decide +kernel)
theorem kvX9_isSeen : Cond.selects yX9_isSeen.cls yX9_isSeen yX9_isSeen ∈ TG := TG_in (List.mem_append_left _ (List.mem_of_getElem? (i := 15) (by decide +kernel))) (by decide +kernel)
theorem knX9_at : Cond.instanceMethod yX9_at ∈ TG := TG_in (List.mem_append_right _ (List.mem_of_getElem? (i := 714) (by decide +kernel))) (by decide +kernel)
theorem kvX9_at : Cond.selects yX9_at.cls yX9_at yX9_at ∈ TG := TG_in (List.mem_append_left _ (List.mem_of_getElem? (i := 16) (by decide +kernel))) (by decide +kernel)
theorem ksX9_in : Cond.static yX9_in ∈ TG := TG_in (List.mem_append_right _ (List.mem_of_getElem? (i := 717) (by decide +kernel))) (by decide +kernel)
theorem knX9_takeSpare : Cond.instanceMethod yX9_takeSpare ∈ TG := TG_in (List.mem_append_right _ (List.mem_of_getElem? (i := 721) (by decide +kernel))) (by decide +kernel)
theorem kvX9_takeSpare : Cond.selects yX9_takeSpare.cls yX9_takeSpare yX9_takeSpare ∈ TG := TG_in (List.mem_append_left _ (List.mem_of_getElem? (i := 17) (by decide +kernel))) (by decide +kernel)
theorem knX9_make : Cond.instanceMethod yX9_make ∈ TG := TG_in (List.mem_append_right _ (List.mem_of_getElem? (i := 725) (by decide +kernel))) (by decide +kernel)
theorem kvX9_make : Cond.selects yX9_make.cls yX9_make yX9_make ∈ TG := TG_in (List.mem_append_left _ (List.mem_of_getElem? (i := 18) (by decide +kernel))) (by decide +kernel)
theorem knX9_to : Cond.instanceMethod yX9_to ∈ TG := TG_in (List.mem_append_right _ (List.mem_of_getElem? (i := 729) (by decide +kernel))) (by decide +kernel)
theorem kvX9_to : Cond.selects yX9_to.cls yX9_to yX9_to ∈ TG := TG_in (List.mem_append_left _ (List.mem_of_getElem? (i := 19) (by decide +kernel))) (by decide +kernel)
theorem knX9_writeText : Cond.instanceMethod yX9_writeText ∈ TG := TG_in (List.mem_append_right _ (List.mem_of_getElem? (i := 733) (by decide +kernel))) (by decide +kernel)
theorem kvX9_writeText : Cond.selects yX9_writeText.cls yX9_writeText yX9_writeText ∈ TG := TG_in (List.mem_append_left _ (List.mem_of_getElem? (i := 20) (by decide +kernel))) (by decide +kernel)
theorem knX9_addKid : Cond.instanceMethod yX9_addKid ∈ TG := TG_in (List.mem_append_right _ (List.mem_of_getElem? (i := 737) (by decide +kernel))) (by decide +kernel)
theorem kvX9_addKid : Cond.selects yX9_addKid.cls yX9_addKid yX9_addKid ∈ TG := TG_in (List.mem_append_left _ (List.mem_of_getElem? (i := 21) (by decide +kernel))) (by decide +kernel)
theorem knX9_of : Cond.instanceMethod yX9_of ∈ TG := TG_in (List.mem_append_right _ (List.mem_of_getElem? (i := 741) (by decide +kernel))) (by decide +kernel)
theorem kvX9_of : Cond.selects yX9_of.cls yX9_of yX9_of ∈ TG := TG_in (List.mem_append_left _ (List.mem_of_getElem? (i := 22) (by decide +kernel))) (by decide +kernel)
theorem knX9_layPlaces : Cond.instanceMethod yX9_layPlaces ∈ TG := TG_in (List.mem_append_right _ (List.mem_of_getElem? (i := 745) (by decide +kernel))) (by decide +kernel)
theorem kvX9_layPlaces : Cond.selects yX9_layPlaces.cls yX9_layPlaces yX9_layPlaces ∈ TG := TG_in (List.mem_append_left _ (List.mem_of_getElem? (i := 23) (by decide +kernel))) (by decide +kernel)
theorem knX9_kid : Cond.instanceMethod yX9_kid ∈ TG := TG_in (List.mem_append_right _ (List.mem_of_getElem? (i := 749) (by decide +kernel))) (by decide +kernel)
theorem kvX9_kid : Cond.selects yX9_kid.cls yX9_kid yX9_kid ∈ TG := TG_in (List.mem_append_left _ (List.mem_of_getElem? (i := 24) (by decide +kernel))) (by decide +kernel)
theorem knX9_spareChild : Cond.instanceMethod yX9_spareChild ∈ TG := TG_in (List.mem_append_right _ (List.mem_of_getElem? (i := 753) (by decide +kernel))) (by decide +kernel)
theorem kvX9_spareChild : Cond.selects yX9_spareChild.cls yX9_spareChild yX9_spareChild ∈ TG := TG_in (List.mem_append_left _ (List.mem_of_getElem? (i := 25) (by decide +kernel))) (by decide +kernel)
theorem knX9_spareAt : Cond.instanceMethod yX9_spareAt ∈ TG := TG_in (List.mem_append_right _ (List.mem_of_getElem? (i := 757) (by decide +kernel))) (by decide +kernel)
theorem kvX9_spareAt : Cond.selects yX9_spareAt.cls yX9_spareAt yX9_spareAt ∈ TG := TG_in (List.mem_append_left _ (List.mem_of_getElem? (i := 26) (by decide +kernel))) (by decide +kernel)
theorem knX9_putBack : Cond.instanceMethod yX9_putBack ∈ TG := TG_in (List.mem_append_right _ (List.mem_of_getElem? (i := 761) (by decide +kernel))) (by decide +kernel)
theorem kvX9_putBack : Cond.selects yX9_putBack.cls yX9_putBack yX9_putBack ∈ TG := TG_in (List.mem_append_left _ (List.mem_of_getElem? (i := 27) (by decide +kernel))) (by decide +kernel)
theorem knX9_record : Cond.instanceMethod yX9_record ∈ TG := TG_in (List.mem_append_right _ (List.mem_of_getElem? (i := 765) (by decide +kernel))) (by decide +kernel)
theorem kvX9_record : Cond.selects yX9_record.cls yX9_record yX9_record ∈ TG := TG_in (List.mem_append_left _ (List.mem_of_getElem? (i := 28) (by decide +kernel))) (by decide +kernel)
theorem knX9_cloneTo : Cond.instanceMethod yX9_cloneTo ∈ TG := TG_in (List.mem_append_right _ (List.mem_of_getElem? (i := 768) (by decide +kernel))) (by decide +kernel)
theorem kvX9_cloneTo : Cond.selects yX9_cloneTo.cls yX9_cloneTo yX9_cloneTo ∈ TG := TG_in (List.mem_append_right _ (List.mem_of_getElem? (i := 769) (by decide +kernel))) (by decide +kernel)
theorem knX9_mayStand : Cond.instanceMethod yX9_mayStand ∈ TG := TG_in (List.mem_append_right _ (List.mem_of_getElem? (i := 773) (by decide +kernel))) (by decide +kernel)
theorem kvX9_mayStand : Cond.selects yX9_mayStand.cls yX9_mayStand yX9_mayStand ∈ TG := TG_in (List.mem_append_left _ (List.mem_of_getElem? (i := 29) (by decide +kernel))) (by decide +kernel)
theorem knX9_layWithin : Cond.instanceMethod yX9_layWithin ∈ TG := TG_in (List.mem_append_right _ (List.mem_of_getElem? (i := 777) (by decide +kernel))) (by decide +kernel)
theorem kvX9_layWithin : Cond.selects yX9_layWithin.cls yX9_layWithin yX9_layWithin ∈ TG := TG_in (List.mem_append_left _ (List.mem_of_getElem? (i := 30) (by decide +kernel))) (by decide +kernel)
theorem knX9_position : Cond.instanceMethod yX9_position ∈ TG := TG_in (List.mem_append_right _ (List.mem_of_getElem? (i := 781) (by decide +kernel))) (by decide +kernel)
theorem kvX9_position : Cond.selects yX9_position.cls yX9_position yX9_position ∈ TG := TG_in (List.mem_append_left _ (List.mem_of_getElem? (i := 31) (by decide +kernel))) (by decide +kernel)
theorem knX9_placesOf : Cond.instanceMethod yX9_placesOf ∈ TG := TG_in (List.mem_append_right _ (List.mem_of_getElem? (i := 785) (by decide +kernel))) (by decide +kernel)
theorem kvX9_placesOf : Cond.selects yX9_placesOf.cls yX9_placesOf yX9_placesOf ∈ TG := TG_in (List.mem_append_left _ (List.mem_of_getElem? (i := 32) (by decide +kernel))) (by decide +kernel)
theorem knX9_move : Cond.instanceMethod yX9_move ∈ TG := TG_in (List.mem_append_right _ (List.mem_of_getElem? (i := 788) (by decide +kernel))) (by decide +kernel)
theorem kvX9_move : Cond.selects yX9_move.cls yX9_move yX9_move ∈ TG := TG_in (List.mem_append_right _ (List.mem_of_getElem? (i := 789) (by decide +kernel))) (by decide +kernel)
theorem knX9_parent : Cond.instanceMethod yX9_parent ∈ TG := TG_in (List.mem_append_right _ (List.mem_of_getElem? (i := 793) (by decide +kernel))) (by decide +kernel)
theorem kvX9_parent : Cond.selects yX9_parent.cls yX9_parent yX9_parent ∈ TG := TG_in (List.mem_append_left _ (List.mem_of_getElem? (i := 33) (by decide +kernel))) (by decide +kernel)
theorem knX9_around : Cond.instanceMethod yX9_around ∈ TG := TG_in (List.mem_append_right _ (List.mem_of_getElem? (i := 797) (by decide +kernel))) (by decide +kernel)
theorem kvX9_around : Cond.selects yX9_around.cls yX9_around yX9_around ∈ TG := TG_in (List.mem_append_left _ (List.mem_of_getElem? (i := 34) (by decide +kernel))) (by decide +kernel)
theorem knX9_takeKid : Cond.instanceMethod yX9_takeKid ∈ TG := TG_in (List.mem_append_right _ (List.mem_of_getElem? (i := 801) (by decide +kernel))) (by decide +kernel)
theorem kvX9_takeKid : Cond.selects yX9_takeKid.cls yX9_takeKid yX9_takeKid ∈ TG := TG_in (List.mem_append_left _ (List.mem_of_getElem? (i := 35) (by decide +kernel))) (by decide +kernel)
theorem knX9_cut : Cond.instanceMethod yX9_cut ∈ TG := TG_in (List.mem_append_right _ (List.mem_of_getElem? (i := 804) (by decide +kernel))) (by decide +kernel)
theorem kvX9_cut : Cond.selects yX9_cut.cls yX9_cut yX9_cut ∈ TG := TG_in (List.mem_append_right _ (List.mem_of_getElem? (i := 805) (by decide +kernel))) (by decide +kernel)
theorem knX9_shift : Cond.instanceMethod yX9_shift ∈ TG := TG_in (List.mem_append_right _ (List.mem_of_getElem? (i := 808) (by decide +kernel))) (by decide +kernel)
theorem kvX9_shift : Cond.selects yX9_shift.cls yX9_shift yX9_shift ∈ TG := TG_in (List.mem_append_right _ (List.mem_of_getElem? (i := 809) (by decide +kernel))) (by decide +kernel)
theorem knX9_edit : Cond.instanceMethod yX9_edit ∈ TG := TG_in (List.mem_append_right _ (List.mem_of_getElem? (i := 812) (by decide +kernel))) (by decide +kernel)
theorem kvX9_edit : Cond.selects yX9_edit.cls yX9_edit yX9_edit ∈ TG := TG_in (List.mem_append_right _ (List.mem_of_getElem? (i := 813) (by decide +kernel))) (by decide +kernel)
theorem knX9_hasText : Cond.instanceMethod yX9_hasText ∈ TG := TG_in (List.mem_append_right _ (List.mem_of_getElem? (i := 817) (by decide +kernel))) (by decide +kernel)
theorem kvX9_hasText : Cond.selects yX9_hasText.cls yX9_hasText yX9_hasText ∈ TG := TG_in (List.mem_append_left _ (List.mem_of_getElem? (i := 36) (by decide +kernel))) (by decide +kernel)
theorem knX9_mark : Cond.instanceMethod yX9_mark ∈ TG := TG_in (List.mem_append_right _ (List.mem_of_getElem? (i := 820) (by decide +kernel))) (by decide +kernel)
theorem kvX9_mark : Cond.selects yX9_mark.cls yX9_mark yX9_mark ∈ TG := TG_in (List.mem_append_right _ (List.mem_of_getElem? (i := 821) (by decide +kernel))) (by decide +kernel)
theorem knX9_fold : Cond.instanceMethod yX9_fold ∈ TG := TG_in (List.mem_append_right _ (List.mem_of_getElem? (i := 824) (by decide +kernel))) (by decide +kernel)
theorem kvX9_fold : Cond.selects yX9_fold.cls yX9_fold yX9_fold ∈ TG := TG_in (List.mem_append_right _ (List.mem_of_getElem? (i := 825) (by decide +kernel))) (by decide +kernel)
theorem knX9_hasKids : Cond.instanceMethod yX9_hasKids ∈ TG := TG_in (List.mem_append_right _ (List.mem_of_getElem? (i := 829) (by decide +kernel))) (by decide +kernel)
theorem kvX9_hasKids : Cond.selects yX9_hasKids.cls yX9_hasKids yX9_hasKids ∈ TG := TG_in (List.mem_append_left _ (List.mem_of_getElem? (i := 37) (by decide +kernel))) (by decide +kernel)
theorem knX9_rows : Cond.instanceMethod yX9_rows ∈ TG := TG_in (List.mem_append_right _ (List.mem_of_getElem? (i := 833) (by decide +kernel))) (by decide +kernel)
theorem kvX9_rows : Cond.selects yX9_rows.cls yX9_rows yX9_rows ∈ TG := TG_in (List.mem_append_left _ (List.mem_of_getElem? (i := 38) (by decide +kernel))) (by decide +kernel)
theorem knX9_foldLevel : Cond.instanceMethod yX9_foldLevel ∈ TG := TG_in (List.mem_append_right _ (List.mem_of_getElem? (i := 836) (by decide +kernel))) (by decide +kernel)
theorem kvX9_foldLevel : Cond.selects yX9_foldLevel.cls yX9_foldLevel yX9_foldLevel ∈ TG := TG_in (List.mem_append_right _ (List.mem_of_getElem? (i := 837) (by decide +kernel))) (by decide +kernel)
theorem knX9_show : Cond.instanceMethod yX9_show ∈ TG := TG_in (List.mem_append_right _ (List.mem_of_getElem? (i := 840) (by decide +kernel))) (by decide +kernel)
theorem kvX9_show : Cond.selects yX9_show.cls yX9_show yX9_show ∈ TG := TG_in (List.mem_append_right _ (List.mem_of_getElem? (i := 841) (by decide +kernel))) (by decide +kernel)
theorem knX9_isNode : Cond.instanceMethod yX9_isNode ∈ TG := TG_in (List.mem_append_right _ (List.mem_of_getElem? (i := 845) (by decide +kernel))) (by decide +kernel)
theorem kvX9_isNode : Cond.selects yX9_isNode.cls yX9_isNode yX9_isNode ∈ TG := TG_in (List.mem_append_left _ (List.mem_of_getElem? (i := 39) (by decide +kernel))) (by decide +kernel)
theorem knX9_firstPlace : Cond.instanceMethod yX9_firstPlace ∈ TG := TG_in (List.mem_append_right _ (List.mem_of_getElem? (i := 849) (by decide +kernel))) (by decide +kernel)
theorem kvX9_firstPlace : Cond.selects yX9_firstPlace.cls yX9_firstPlace yX9_firstPlace ∈ TG := TG_in (List.mem_append_left _ (List.mem_of_getElem? (i := 40) (by decide +kernel))) (by decide +kernel)
theorem knX9_rowOf : Cond.instanceMethod yX9_rowOf ∈ TG := TG_in (List.mem_append_right _ (List.mem_of_getElem? (i := 853) (by decide +kernel))) (by decide +kernel)
theorem kvX9_rowOf : Cond.selects yX9_rowOf.cls yX9_rowOf yX9_rowOf ∈ TG := TG_in (List.mem_append_left _ (List.mem_of_getElem? (i := 41) (by decide +kernel))) (by decide +kernel)
theorem knX9_type : Cond.instanceMethod yX9_type ∈ TG := TG_in (List.mem_append_right _ (List.mem_of_getElem? (i := 856) (by decide +kernel))) (by decide +kernel)
theorem kvX9_type : Cond.selects yX9_type.cls yX9_type yX9_type ∈ TG := TG_in (List.mem_append_right _ (List.mem_of_getElem? (i := 857) (by decide +kernel))) (by decide +kernel)
theorem knX9_clearText : Cond.instanceMethod yX9_clearText ∈ TG := TG_in (List.mem_append_right _ (List.mem_of_getElem? (i := 860) (by decide +kernel))) (by decide +kernel)
theorem kvX9_clearText : Cond.selects yX9_clearText.cls yX9_clearText yX9_clearText ∈ TG := TG_in (List.mem_append_right _ (List.mem_of_getElem? (i := 861) (by decide +kernel))) (by decide +kernel)
theorem knX9_readOutline : Cond.instanceMethod yX9_readOutline ∈ TG := TG_in (List.mem_append_right _ (List.mem_of_getElem? (i := 864) (by decide +kernel))) (by decide +kernel)
theorem kvX9_readOutline : Cond.selects yX9_readOutline.cls yX9_readOutline yX9_readOutline ∈ TG := TG_in (List.mem_append_right _ (List.mem_of_getElem? (i := 865) (by decide +kernel))) (by decide +kernel)
theorem knX9_readsFault : Cond.instanceMethod yX9_readsFault ∈ TG := TG_in (List.mem_append_right _ (List.mem_of_getElem? (i := 869) (by decide +kernel))) (by decide +kernel)
theorem kvX9_readsFault : Cond.selects yX9_readsFault.cls yX9_readsFault yX9_readsFault ∈ TG := TG_in (List.mem_append_left _ (List.mem_of_getElem? (i := 42) (by decide +kernel))) (by decide +kernel)
theorem knX9_isOpen : Cond.instanceMethod yX9_isOpen ∈ TG := TG_in (List.mem_append_right _ (List.mem_of_getElem? (i := 873) (by decide +kernel))) (by decide +kernel)
theorem kvX9_isOpen : Cond.selects yX9_isOpen.cls yX9_isOpen yX9_isOpen ∈ TG := TG_in (List.mem_append_left _ (List.mem_of_getElem? (i := 43) (by decide +kernel))) (by decide +kernel)
theorem knX9_stands : Cond.instanceMethod yX9_stands ∈ TG := TG_in (List.mem_append_right _ (List.mem_of_getElem? (i := 877) (by decide +kernel))) (by decide +kernel)
theorem kvX9_stands : Cond.selects yX9_stands.cls yX9_stands yX9_stands ∈ TG := TG_in (List.mem_append_left _ (List.mem_of_getElem? (i := 44) (by decide +kernel))) (by decide +kernel)
theorem knX9_undo : Cond.instanceMethod yX9_undo ∈ TG := TG_in (List.mem_append_right _ (List.mem_of_getElem? (i := 880) (by decide +kernel))) (by decide +kernel)
theorem kvX9_undo : Cond.selects yX9_undo.cls yX9_undo yX9_undo ∈ TG := TG_in (List.mem_append_right _ (List.mem_of_getElem? (i := 881) (by decide +kernel))) (by decide +kernel)
theorem knX9_keep : Cond.instanceMethod yX9_keep ∈ TG := TG_in (List.mem_append_right _ (List.mem_of_getElem? (i := 884) (by decide +kernel))) (by decide +kernel)
theorem kvX9_keep : Cond.selects yX9_keep.cls yX9_keep yX9_keep ∈ TG := TG_in (List.mem_append_right _ (List.mem_of_getElem? (i := 885) (by decide +kernel))) (by decide +kernel)
theorem knX9_restore : Cond.instanceMethod yX9_restore ∈ TG := TG_in (List.mem_append_right _ (List.mem_of_getElem? (i := 888) (by decide +kernel))) (by decide +kernel)
theorem kvX9_restore : Cond.selects yX9_restore.cls yX9_restore yX9_restore ∈ TG := TG_in (List.mem_append_right _ (List.mem_of_getElem? (i := 889) (by decide +kernel))) (by decide +kernel)
theorem knX9_row : Cond.instanceMethod yX9_row ∈ TG := TG_in (List.mem_append_right _ (List.mem_of_getElem? (i := 892) (by decide +kernel))) (by decide +kernel)
theorem kvX9_row : Cond.selects yX9_row.cls yX9_row yX9_row ∈ TG := TG_in (List.mem_append_right _ (List.mem_of_getElem? (i := 893) (by decide +kernel))) (by decide +kernel)
theorem knX9_rowsWithin : Cond.instanceMethod yX9_rowsWithin ∈ TG := TG_in (List.mem_append_right _ (List.mem_of_getElem? (i := 897) (by decide +kernel))) (by decide +kernel)
theorem kvX9_rowsWithin : Cond.selects yX9_rowsWithin.cls yX9_rowsWithin yX9_rowsWithin ∈ TG := TG_in (List.mem_append_left _ (List.mem_of_getElem? (i := 45) (by decide +kernel))) (by decide +kernel)
theorem knX9_number : Cond.instanceMethod yX9_number ∈ TG := TG_in (List.mem_append_right _ (List.mem_of_getElem? (i := 900) (by decide +kernel))) (by decide +kernel)
theorem kvX9_number : Cond.selects yX9_number.cls yX9_number yX9_number ∈ TG := TG_in (List.mem_append_right _ (List.mem_of_getElem? (i := 901) (by decide +kernel))) (by decide +kernel)
theorem knX9_charAt : Cond.instanceMethod yX9_charAt ∈ TG := TG_in (List.mem_append_right _ (List.mem_of_getElem? (i := 904) (by decide +kernel))) (by decide +kernel)
theorem kvX9_charAt : Cond.selects yX9_charAt.cls yX9_charAt yX9_charAt ∈ TG := TG_in (List.mem_append_right _ (List.mem_of_getElem? (i := 905) (by decide +kernel))) (by decide +kernel)
theorem knX9_node : Cond.instanceMethod yX9_node ∈ TG := TG_in (List.mem_append_right _ (List.mem_of_getElem? (i := 908) (by decide +kernel))) (by decide +kernel)
theorem kvX9_node : Cond.selects yX9_node.cls yX9_node yX9_node ∈ TG := TG_in (List.mem_append_right _ (List.mem_of_getElem? (i := 909) (by decide +kernel))) (by decide +kernel)
theorem knX9_parents : Cond.instanceMethod yX9_parents ∈ TG := TG_in (List.mem_append_right _ (List.mem_of_getElem? (i := 913) (by decide +kernel))) (by decide +kernel)
theorem kvX9_parents : Cond.selects yX9_parents.cls yX9_parents yX9_parents ∈ TG := TG_in (List.mem_append_left _ (List.mem_of_getElem? (i := 46) (by decide +kernel))) (by decide +kernel)
theorem knX9_seenPlaces : Cond.instanceMethod yX9_seenPlaces ∈ TG := TG_in (List.mem_append_right _ (List.mem_of_getElem? (i := 917) (by decide +kernel))) (by decide +kernel)
theorem kvX9_seenPlaces : Cond.selects yX9_seenPlaces.cls yX9_seenPlaces yX9_seenPlaces ∈ TG := TG_in (List.mem_append_left _ (List.mem_of_getElem? (i := 47) (by decide +kernel))) (by decide +kernel)
theorem knX9_firstRow : Cond.instanceMethod yX9_firstRow ∈ TG := TG_in (List.mem_append_right _ (List.mem_of_getElem? (i := 921) (by decide +kernel))) (by decide +kernel)
theorem kvX9_firstRow : Cond.selects yX9_firstRow.cls yX9_firstRow yX9_firstRow ∈ TG := TG_in (List.mem_append_left _ (List.mem_of_getElem? (i := 48) (by decide +kernel))) (by decide +kernel)
theorem knX9_nextMarked : Cond.instanceMethod yX9_nextMarked ∈ TG := TG_in (List.mem_append_right _ (List.mem_of_getElem? (i := 924) (by decide +kernel))) (by decide +kernel)
theorem kvX9_nextMarked : Cond.selects yX9_nextMarked.cls yX9_nextMarked yX9_nextMarked ∈ TG := TG_in (List.mem_append_right _ (List.mem_of_getElem? (i := 925) (by decide +kernel))) (by decide +kernel)
theorem knX9_find : Cond.instanceMethod yX9_find ∈ TG := TG_in (List.mem_append_right _ (List.mem_of_getElem? (i := 928) (by decide +kernel))) (by decide +kernel)
theorem kvX9_find : Cond.selects yX9_find.cls yX9_find yX9_find ∈ TG := TG_in (List.mem_append_right _ (List.mem_of_getElem? (i := 929) (by decide +kernel))) (by decide +kernel)
theorem knX9_count : Cond.instanceMethod yX9_count ∈ TG := TG_in (List.mem_append_right _ (List.mem_of_getElem? (i := 932) (by decide +kernel))) (by decide +kernel)
theorem kvX9_count : Cond.selects yX9_count.cls yX9_count yX9_count ∈ TG := TG_in (List.mem_append_right _ (List.mem_of_getElem? (i := 933) (by decide +kernel))) (by decide +kernel)
theorem knX9_nodes : Cond.instanceMethod yX9_nodes ∈ TG := TG_in (List.mem_append_right _ (List.mem_of_getElem? (i := 937) (by decide +kernel))) (by decide +kernel)
theorem kvX9_nodes : Cond.selects yX9_nodes.cls yX9_nodes yX9_nodes ∈ TG := TG_in (List.mem_append_left _ (List.mem_of_getElem? (i := 49) (by decide +kernel))) (by decide +kernel)
theorem knX9_foldedPlaces : Cond.instanceMethod yX9_foldedPlaces ∈ TG := TG_in (List.mem_append_right _ (List.mem_of_getElem? (i := 941) (by decide +kernel))) (by decide +kernel)
theorem kvX9_foldedPlaces : Cond.selects yX9_foldedPlaces.cls yX9_foldedPlaces yX9_foldedPlaces ∈ TG := TG_in (List.mem_append_left _ (List.mem_of_getElem? (i := 50) (by decide +kernel))) (by decide +kernel)
theorem knX9_greatestLevel : Cond.instanceMethod yX9_greatestLevel ∈ TG := TG_in (List.mem_append_right _ (List.mem_of_getElem? (i := 945) (by decide +kernel))) (by decide +kernel)
theorem kvX9_greatestLevel : Cond.selects yX9_greatestLevel.cls yX9_greatestLevel yX9_greatestLevel ∈ TG := TG_in (List.mem_append_left _ (List.mem_of_getElem? (i := 51) (by decide +kernel))) (by decide +kernel)
theorem lL_9 : MI RL 9 mX8_init 0 := ⟨⟨TG_in (List.mem_append_right _ (List.mem_of_getElem? (i := 16) (by decide +kernel))) (by decide +kernel), kiX8, kcX8_init, ⟨by decide +kernel, by decide +kernel⟩, by decide +kernel⟩, knX8_init, rfl, rfl⟩
theorem oiX8 : Cond.methodLink RX8 1 objectInit ∈ TG := TG_in (List.mem_append_right _ (List.mem_of_getElem? (i := 19) (by decide +kernel))) (by decide +kernel)
theorem lX8_9 : MIn RX8 9 mX7_init 0 := ⟨⟨(by decide +kernel), kiX7, kcX7_init, ⟨by decide +kernel, by decide +kernel⟩, by decide +kernel⟩, knX7_init, rfl, rfl⟩
theorem oiX7 : Cond.methodLink RX7 3 objectInit ∈ TG := TG_in (List.mem_append_right _ (List.mem_of_getElem? (i := 27) (by decide +kernel))) (by decide +kernel)
theorem lX8_18 : MIn RX8 18 mX4_init 0 := ⟨⟨(by decide +kernel), kiX4, kcX4_init, ⟨by decide +kernel, by decide +kernel⟩, by decide +kernel⟩, knX4_init, rfl, rfl⟩
theorem oiX4 : Cond.methodLink RX4 3 objectInit ∈ TG := TG_in (List.mem_append_right _ (List.mem_of_getElem? (i := 44) (by decide +kernel))) (by decide +kernel)
theorem lX8_25 : MIn RX8 25 mX5_init 0 := ⟨⟨(by decide +kernel), kiX5, kcX5_init, ⟨by decide +kernel, by decide +kernel⟩, by decide +kernel⟩, knX5_init, rfl, rfl⟩
theorem oiX5 : Cond.methodLink RX5 3 objectInit ∈ TG := TG_in (List.mem_append_right _ (List.mem_of_getElem? (i := 66) (by decide +kernel))) (by decide +kernel)
theorem lX8_32 : MI RX8 32 mX0_init 0 := ⟨⟨TG_in (List.mem_append_right _ (List.mem_of_getElem? (i := 80) (by decide +kernel))) (by decide +kernel), kiX0, kcX0_init, ⟨by decide +kernel, by decide +kernel⟩, by decide +kernel⟩, knX0_init, rfl, rfl⟩
theorem oiX0 : Cond.methodLink RX0 3 objectInit ∈ TG := TG_in (List.mem_append_right _ (List.mem_of_getElem? (i := 83) (by decide +kernel))) (by decide +kernel)
theorem lX0_17 : MIn RX0 17 mX6_init 0 := ⟨⟨(by decide +kernel), kiX6, kcX6_init, ⟨by decide +kernel, by decide +kernel⟩, by decide +kernel⟩, knX6_init, rfl, rfl⟩
theorem oiX6 : Cond.methodLink RX6 3 objectInit ∈ TG := TG_in (List.mem_append_right _ (List.mem_of_getElem? (i := 90) (by decide +kernel))) (by decide +kernel)
theorem lX6_11 : MIn RX6 11 mX2_init 0 := ⟨⟨(by decide +kernel), kiX2, kcX2_init, ⟨by decide +kernel, by decide +kernel⟩, by decide +kernel⟩, knX2_init, rfl, rfl⟩
theorem oiX2 : Cond.methodLink RX2 3 objectInit ∈ TG := TG_in (List.mem_append_right _ (List.mem_of_getElem? (i := 96) (by decide +kernel))) (by decide +kernel)
theorem lX6_20 : MIn RX6 20 mX1_init 0 := ⟨⟨(by decide +kernel), kiX1, kcX1_init, ⟨by decide +kernel, by decide +kernel⟩, by decide +kernel⟩, knX1_init, rfl, rfl⟩
theorem oiX1 : Cond.methodLink RX1 3 objectInit ∈ TG := TG_in (List.mem_append_right _ (List.mem_of_getElem? (i := 117) (by decide +kernel))) (by decide +kernel)
theorem lX6_27 : MIn RX6 27 mX3_init 0 := ⟨⟨(by decide +kernel), kiX3, kcX3_init, ⟨by decide +kernel, by decide +kernel⟩, by decide +kernel⟩, knX3_init, rfl, rfl⟩
theorem oiX3 : Cond.methodLink RX3 3 objectInit ∈ TG := TG_in (List.mem_append_right _ (List.mem_of_getElem? (i := 136) (by decide +kernel))) (by decide +kernel)
theorem lX8_39 : MIn RX8 39 mX6_init 0 := ⟨⟨(by decide +kernel), kiX6, kcX6_init, ⟨by decide +kernel, by decide +kernel⟩, by decide +kernel⟩, knX6_init, rfl, rfl⟩
theorem lL_13 : MV RL 13 mX8_add 1 := ⟨⟨TG_in (List.mem_append_right _ (List.mem_of_getElem? (i := 208) (by decide +kernel))) (by decide +kernel), kiX8, kcX8_add, ⟨by decide +kernel, by decide +kernel⟩, by decide +kernel⟩, knX8_add, kvX8_add⟩
theorem lX8_54 : MV RX8 54 mX8_placeOrRoot 1 := ⟨⟨TG_in (List.mem_append_right _ (List.mem_of_getElem? (i := 212) (by decide +kernel))) (by decide +kernel), kiX8, kcX8_placeOrRoot, ⟨by decide +kernel, by decide +kernel⟩, by decide +kernel⟩, knX8_placeOrRoot, kvX8_placeOrRoot⟩
theorem lX8_107 : MV RX8 107 mX5_placeOf 1 := ⟨⟨TG_in (List.mem_append_right _ (List.mem_of_getElem? (i := 216) (by decide +kernel))) (by decide +kernel), kiX5, kcX5_placeOf, ⟨by decide +kernel, by decide +kernel⟩, by decide +kernel⟩, knX5_placeOf, kvX5_placeOf⟩
theorem lX8_58 : MV RX8 58 mX7_fitsNode 0 := ⟨⟨TG_in (List.mem_append_right _ (List.mem_of_getElem? (i := 220) (by decide +kernel))) (by decide +kernel), kiX7, kcX7_fitsNode, ⟨by decide +kernel, by decide +kernel⟩, by decide +kernel⟩, knX7_fitsNode, kvX7_fitsNode⟩
theorem lX8_72 : MV RX8 72 mX6_copyFrom 1 := ⟨⟨TG_in (List.mem_append_right _ (List.mem_of_getElem? (i := 224) (by decide +kernel))) (by decide +kernel), kiX6, kcX6_copyFrom, ⟨by decide +kernel, by decide +kernel⟩, by decide +kernel⟩, knX6_copyFrom, kvX6_copyFrom⟩
theorem lX6_32 : MV RX6 32 mX2_copyFrom 1 := ⟨⟨TG_in (List.mem_append_right _ (List.mem_of_getElem? (i := 228) (by decide +kernel))) (by decide +kernel), kiX2, kcX2_copyFrom, ⟨by decide +kernel, by decide +kernel⟩, by decide +kernel⟩, knX2_copyFrom, kvX2_copyFrom⟩
theorem acX2 : Cond.methodLink RX2 25 arraycopyName ∈ TG := TG_in (List.mem_append_right _ (List.mem_of_getElem? (i := 232) (by decide +kernel))) (by decide +kernel)
theorem lX6_36 : MV RX6 36 mX1_copyFrom 1 := ⟨⟨TG_in (List.mem_append_right _ (List.mem_of_getElem? (i := 235) (by decide +kernel))) (by decide +kernel), kiX1, kcX1_copyFrom, ⟨by decide +kernel, by decide +kernel⟩, by decide +kernel⟩, knX1_copyFrom, kvX1_copyFrom⟩
theorem acX1 : Cond.methodLink RX1 22 arraycopyName ∈ TG := TG_in (List.mem_append_right _ (List.mem_of_getElem? (i := 239) (by decide +kernel))) (by decide +kernel)
theorem lX6_39 : MV RX6 39 mX3_copyFrom 1 := ⟨⟨TG_in (List.mem_append_right _ (List.mem_of_getElem? (i := 240) (by decide +kernel))) (by decide +kernel), kiX3, kcX3_copyFrom, ⟨by decide +kernel, by decide +kernel⟩, by decide +kernel⟩, knX3_copyFrom, kvX3_copyFrom⟩
theorem acX3 : Cond.methodLink RX3 25 arraycopyName ∈ TG := TG_in (List.mem_append_right _ (List.mem_of_getElem? (i := 244) (by decide +kernel))) (by decide +kernel)
theorem lX8_76 : MV RX8 76 mX2_makeNode 0 := ⟨⟨TG_in (List.mem_append_right _ (List.mem_of_getElem? (i := 245) (by decide +kernel))) (by decide +kernel), kiX2, kcX2_makeNode, ⟨by decide +kernel, by decide +kernel⟩, by decide +kernel⟩, knX2_makeNode, kvX2_makeNode⟩
theorem lX8_80 : MV RX8 80 mX2_setText 2 := ⟨⟨TG_in (List.mem_append_right _ (List.mem_of_getElem? (i := 249) (by decide +kernel))) (by decide +kernel), kiX2, kcX2_setText, ⟨by decide +kernel, by decide +kernel⟩, by decide +kernel⟩, knX2_setText, kvX2_setText⟩
theorem lX2_31 : MS RX2 31 mX2_isNumber 1 := ⟨⟨TG_in (List.mem_append_right _ (List.mem_of_getElem? (i := 253) (by decide +kernel))) (by decide +kernel), kiX2, kcX2_isNumber, ⟨by decide +kernel, by decide +kernel⟩, by decide +kernel⟩, ksX2_isNumber⟩
theorem lX2_35 : MV RX2 35 mX7_fitsNode 0 := ⟨⟨TG_in (List.mem_append_right _ (List.mem_of_getElem? (i := 256) (by decide +kernel))) (by decide +kernel), kiX7, kcX7_fitsNode, ⟨by decide +kernel, by decide +kernel⟩, by decide +kernel⟩, knX7_fitsNode, kvX7_fitsNode⟩
theorem lX2_44 : MV RX2 44 mX7_codeAt 1 := ⟨⟨TG_in (List.mem_append_right _ (List.mem_of_getElem? (i := 257) (by decide +kernel))) (by decide +kernel), kiX7, kcX7_codeAt, ⟨by decide +kernel, by decide +kernel⟩, by decide +kernel⟩, knX7_codeAt, kvX7_codeAt⟩
theorem lX8_88 : MV RX8 88 mX3_nodeOf 1 := ⟨⟨TG_in (List.mem_append_right _ (List.mem_of_getElem? (i := 261) (by decide +kernel))) (by decide +kernel), kiX3, kcX3_nodeOf, ⟨by decide +kernel, by decide +kernel⟩, by decide +kernel⟩, knX3_nodeOf, kvX3_nodeOf⟩
theorem lX3_35 : MV RX3 35 mX3_isThere 1 := ⟨⟨TG_in (List.mem_append_right _ (List.mem_of_getElem? (i := 265) (by decide +kernel))) (by decide +kernel), kiX3, kcX3_isThere, ⟨by decide +kernel, by decide +kernel⟩, by decide +kernel⟩, knX3_isThere, kvX3_isThere⟩
theorem lX8_93 : MV RX8 93 mX8_attach 2 := ⟨⟨TG_in (List.mem_append_right _ (List.mem_of_getElem? (i := 269) (by decide +kernel))) (by decide +kernel), kiX8, kcX8_attach, ⟨by decide +kernel, by decide +kernel⟩, by decide +kernel⟩, knX8_attach, kvX8_attach⟩
theorem lX8_269 : MV RX8 269 mX1_append 2 := ⟨⟨TG_in (List.mem_append_right _ (List.mem_of_getElem? (i := 273) (by decide +kernel))) (by decide +kernel), kiX1, kcX1_append, ⟨by decide +kernel, by decide +kernel⟩, by decide +kernel⟩, knX1_append, kvX1_append⟩
theorem lX8_119 : MV RX8 119 mX6_placeAgain 1 := ⟨⟨TG_in (List.mem_append_right _ (List.mem_of_getElem? (i := 277) (by decide +kernel))) (by decide +kernel), kiX6, kcX6_placeAgain, ⟨by decide +kernel, by decide +kernel⟩, by decide +kernel⟩, knX6_placeAgain, kvX6_placeAgain⟩
theorem lX6_50 : MS RX6 50 mX6_grow 5 := ⟨⟨TG_in (List.mem_append_right _ (List.mem_of_getElem? (i := 281) (by decide +kernel))) (by decide +kernel), kiX6, kcX6_grow, ⟨by decide +kernel, by decide +kernel⟩, by decide +kernel⟩, ksX6_grow⟩
theorem lX6_54 : MV RX6 54 mX3_nodeOf 1 := ⟨⟨TG_in (List.mem_append_right _ (List.mem_of_getElem? (i := 284) (by decide +kernel))) (by decide +kernel), kiX3, kcX3_nodeOf, ⟨by decide +kernel, by decide +kernel⟩, by decide +kernel⟩, knX3_nodeOf, kvX3_nodeOf⟩
theorem lX6_65 : MV RX6 65 mX3_childPlace 2 := ⟨⟨TG_in (List.mem_append_right _ (List.mem_of_getElem? (i := 285) (by decide +kernel))) (by decide +kernel), kiX3, kcX3_childPlace, ⟨by decide +kernel, by decide +kernel⟩, by decide +kernel⟩, knX3_childPlace, kvX3_childPlace⟩
theorem lX3_31 : MV RX3 31 mX3_levelOf 1 := ⟨⟨TG_in (List.mem_append_right _ (List.mem_of_getElem? (i := 289) (by decide +kernel))) (by decide +kernel), kiX3, kcX3_levelOf, ⟨by decide +kernel, by decide +kernel⟩, by decide +kernel⟩, knX3_levelOf, kvX3_levelOf⟩
theorem lX6_69 : MV RX6 69 mX3_foldOf 1 := ⟨⟨TG_in (List.mem_append_right _ (List.mem_of_getElem? (i := 293) (by decide +kernel))) (by decide +kernel), kiX3, kcX3_foldOf, ⟨by decide +kernel, by decide +kernel⟩, by decide +kernel⟩, knX3_foldOf, kvX3_foldOf⟩
theorem lX6_72 : MV RX6 72 mX3_append 3 := ⟨⟨TG_in (List.mem_append_right _ (List.mem_of_getElem? (i := 297) (by decide +kernel))) (by decide +kernel), kiX3, kcX3_append, ⟨by decide +kernel, by decide +kernel⟩, by decide +kernel⟩, knX3_append, kvX3_append⟩
theorem lX8_131 : MV RX8 131 mX8_accept 0 := ⟨⟨TG_in (List.mem_append_right _ (List.mem_of_getElem? (i := 301) (by decide +kernel))) (by decide +kernel), kiX8, kcX8_accept, ⟨by decide +kernel, by decide +kernel⟩, by decide +kernel⟩, knX8_accept, kvX8_accept⟩
theorem lX8_272 : MV RX8 272 mX0_push 1 := ⟨⟨TG_in (List.mem_append_right _ (List.mem_of_getElem? (i := 305) (by decide +kernel))) (by decide +kernel), kiX0, kcX0_push, ⟨by decide +kernel, by decide +kernel⟩, by decide +kernel⟩, knX0_push, kvX0_push⟩
theorem lX0_25 : MS RX0 25 mJ9_floorMod_7cf53 2 := ⟨⟨TG_in (List.mem_append_right _ (List.mem_of_getElem? (i := 309) (by decide +kernel))) (by decide +kernel), kiJ9, kcJ9_floorMod_7cf53, ⟨by decide +kernel, by decide +kernel⟩, by decide +kernel⟩, ksJ9_floorMod_7cf53⟩
theorem lX0_31 : MV RX0 31 mX6_copyFrom 1 := ⟨⟨TG_in (List.mem_append_right _ (List.mem_of_getElem? (i := 312) (by decide +kernel))) (by decide +kernel), kiX6, kcX6_copyFrom, ⟨by decide +kernel, by decide +kernel⟩, by decide +kernel⟩, knX6_copyFrom, kvX6_copyFrom⟩
theorem lX8_207 : MV RX8 207 mX5_refresh 1 := ⟨⟨TG_in (List.mem_append_right _ (List.mem_of_getElem? (i := 313) (by decide +kernel))) (by decide +kernel), kiX5, kcX5_refresh, ⟨by decide +kernel, by decide +kernel⟩, by decide +kernel⟩, knX5_refresh, kvX5_refresh⟩
theorem lX8_148 : MV RX8 148 mX3_countOf 1 := ⟨⟨TG_in (List.mem_append_right _ (List.mem_of_getElem? (i := 317) (by decide +kernel))) (by decide +kernel), kiX3, kcX3_countOf, ⟨by decide +kernel, by decide +kernel⟩, by decide +kernel⟩, knX3_countOf, kvX3_countOf⟩
theorem lL_18 : MV RL 18 mX8_cloneTo 2 := ⟨⟨TG_in (List.mem_append_right _ (List.mem_of_getElem? (i := 321) (by decide +kernel))) (by decide +kernel), kiX8, kcX8_cloneTo, ⟨by decide +kernel, by decide +kernel⟩, by decide +kernel⟩, knX8_cloneTo, kvX8_cloneTo⟩
theorem lX8_97 : MV RX8 97 mX8_refusalOfParent 2 := ⟨⟨TG_in (List.mem_append_right _ (List.mem_of_getElem? (i := 325) (by decide +kernel))) (by decide +kernel), kiX8, kcX8_refusalOfParent, ⟨by decide +kernel, by decide +kernel⟩, by decide +kernel⟩, knX8_refusalOfParent, kvX8_refusalOfParent⟩
theorem lX8_245 : MV RX8 245 mX3_nodesWithin 1 := ⟨⟨TG_in (List.mem_append_right _ (List.mem_of_getElem? (i := 329) (by decide +kernel))) (by decide +kernel), kiX3, kcX3_nodesWithin, ⟨by decide +kernel, by decide +kernel⟩, by decide +kernel⟩, knX3_nodesWithin, kvX3_nodesWithin⟩
theorem lX3_55 : MV RX3 55 mX3_endOf 1 := ⟨⟨TG_in (List.mem_append_right _ (List.mem_of_getElem? (i := 333) (by decide +kernel))) (by decide +kernel), kiX3, kcX3_endOf, ⟨by decide +kernel, by decide +kernel⟩, by decide +kernel⟩, knX3_endOf, kvX3_endOf⟩
theorem lX3_39 : MS RX3 39 mJ9_max_7cf53 2 := ⟨⟨TG_in (List.mem_append_right _ (List.mem_of_getElem? (i := 337) (by decide +kernel))) (by decide +kernel), kiJ9, kcJ9_max_7cf53, ⟨by decide +kernel, by decide +kernel⟩, by decide +kernel⟩, ksJ9_max_7cf53⟩
theorem lX8_266 : MV RX8 266 mX1_indexOf 2 := ⟨⟨TG_in (List.mem_append_right _ (List.mem_of_getElem? (i := 340) (by decide +kernel))) (by decide +kernel), kiX1, kcX1_indexOf, ⟨by decide +kernel, by decide +kernel⟩, by decide +kernel⟩, knX1_indexOf, kvX1_indexOf⟩
theorem lX8_100 : MV RX8 100 mX8_nodeOfRow 1 := ⟨⟨TG_in (List.mem_append_right _ (List.mem_of_getElem? (i := 344) (by decide +kernel))) (by decide +kernel), kiX8, kcX8_nodeOfRow, ⟨by decide +kernel, by decide +kernel⟩, by decide +kernel⟩, knX8_nodeOfRow, kvX8_nodeOfRow⟩
theorem lL_23 : MV RL 23 mX8_move 2 := ⟨⟨TG_in (List.mem_append_right _ (List.mem_of_getElem? (i := 348) (by decide +kernel))) (by decide +kernel), kiX8, kcX8_move, ⟨by decide +kernel, by decide +kernel⟩, by decide +kernel⟩, knX8_move, kvX8_move⟩
theorem lX8_110 : MV RX8 110 mX8_parentNodeOf 1 := ⟨⟨TG_in (List.mem_append_right _ (List.mem_of_getElem? (i := 352) (by decide +kernel))) (by decide +kernel), kiX8, kcX8_parentNodeOf, ⟨by decide +kernel, by decide +kernel⟩, by decide +kernel⟩, knX8_parentNodeOf, kvX8_parentNodeOf⟩
theorem lX8_263 : MV RX8 263 mX3_parentOf 1 := ⟨⟨TG_in (List.mem_append_right _ (List.mem_of_getElem? (i := 356) (by decide +kernel))) (by decide +kernel), kiX3, kcX3_parentOf, ⟨by decide +kernel, by decide +kernel⟩, by decide +kernel⟩, knX3_parentOf, kvX3_parentOf⟩
theorem lX3_48 : MV RX3 48 mX3_atLevel 2 := ⟨⟨TG_in (List.mem_append_right _ (List.mem_of_getElem? (i := 360) (by decide +kernel))) (by decide +kernel), kiX3, kcX3_atLevel, ⟨by decide +kernel, by decide +kernel⟩, by decide +kernel⟩, knX3_atLevel, kvX3_atLevel⟩
theorem lX3_45 : MS RX3 45 mJ9_min_7cf53 2 := ⟨⟨TG_in (List.mem_append_right _ (List.mem_of_getElem? (i := 364) (by decide +kernel))) (by decide +kernel), kiJ9, kcJ9_min_7cf53, ⟨by decide +kernel, by decide +kernel⟩, by decide +kernel⟩, ksJ9_min_7cf53⟩
theorem lX8_113 : MV RX8 113 mX1_drop 2 := ⟨⟨TG_in (List.mem_append_right _ (List.mem_of_getElem? (i := 367) (by decide +kernel))) (by decide +kernel), kiX1, kcX1_drop, ⟨by decide +kernel, by decide +kernel⟩, by decide +kernel⟩, knX1_drop, kvX1_drop⟩
theorem lX1_28 : MV RX1 28 mX1_indexOf 2 := ⟨⟨TG_in (List.mem_append_right _ (List.mem_of_getElem? (i := 371) (by decide +kernel))) (by decide +kernel), kiX1, kcX1_indexOf, ⟨by decide +kernel, by decide +kernel⟩, by decide +kernel⟩, knX1_indexOf, kvX1_indexOf⟩
theorem lL_27 : MV RL 27 mX8_cut 1 := ⟨⟨TG_in (List.mem_append_right _ (List.mem_of_getElem? (i := 372) (by decide +kernel))) (by decide +kernel), kiX8, kcX8_cut, ⟨by decide +kernel, by decide +kernel⟩, by decide +kernel⟩, knX8_cut, kvX8_cut⟩
theorem lX8_123 : MV RX8 123 mX3_nodeSet 0 := ⟨⟨TG_in (List.mem_append_right _ (List.mem_of_getElem? (i := 376) (by decide +kernel))) (by decide +kernel), kiX3, kcX3_nodeSet, ⟨by decide +kernel, by decide +kernel⟩, by decide +kernel⟩, knX3_nodeSet, kvX3_nodeSet⟩
theorem lX3_51 : MV RX3 51 mX3_nodesWithin 1 := ⟨⟨TG_in (List.mem_append_right _ (List.mem_of_getElem? (i := 380) (by decide +kernel))) (by decide +kernel), kiX3, kcX3_nodesWithin, ⟨by decide +kernel, by decide +kernel⟩, by decide +kernel⟩, knX3_nodesWithin, kvX3_nodesWithin⟩
theorem lX8_127 : MV RX8 127 mX6_dropVanished 1 := ⟨⟨TG_in (List.mem_append_right _ (List.mem_of_getElem? (i := 381) (by decide +kernel))) (by decide +kernel), kiX6, kcX6_dropVanished, ⟨by decide +kernel, by decide +kernel⟩, by decide +kernel⟩, knX6_dropVanished, kvX6_dropVanished⟩
theorem lX6_76 : MV RX6 76 mX3_nodeSet 0 := ⟨⟨TG_in (List.mem_append_right _ (List.mem_of_getElem? (i := 385) (by decide +kernel))) (by decide +kernel), kiX3, kcX3_nodeSet, ⟨by decide +kernel, by decide +kernel⟩, by decide +kernel⟩, knX3_nodeSet, kvX3_nodeSet⟩
theorem lX6_80 : MV RX6 80 mX1_keepParents 1 := ⟨⟨TG_in (List.mem_append_right _ (List.mem_of_getElem? (i := 386) (by decide +kernel))) (by decide +kernel), kiX1, kcX1_keepParents, ⟨by decide +kernel, by decide +kernel⟩, by decide +kernel⟩, knX1_keepParents, kvX1_keepParents⟩
theorem lX6_86 : MS RX6 86 mJ13_bitCount_95d88 1 := ⟨⟨TG_in (List.mem_append_right _ (List.mem_of_getElem? (i := 391) (by decide +kernel))) (by decide +kernel), kiJ13, kcJ13_bitCount_95d88, ⟨by decide +kernel, by decide +kernel⟩, by decide +kernel⟩, ksJ13_bitCount_95d88⟩
theorem lL_31 : MV RL 31 mX8_shift 2 := ⟨⟨TG_in (List.mem_append_right _ (List.mem_of_getElem? (i := 397) (by decide +kernel))) (by decide +kernel), kiX8, kcX8_shift, ⟨by decide +kernel, by decide +kernel⟩, by decide +kernel⟩, knX8_shift, kvX8_shift⟩
theorem lX8_134 : MV RX8 134 mX1_position 2 := ⟨⟨TG_in (List.mem_append_right _ (List.mem_of_getElem? (i := 401) (by decide +kernel))) (by decide +kernel), kiX1, kcX1_position, ⟨by decide +kernel, by decide +kernel⟩, by decide +kernel⟩, knX1_position, kvX1_position⟩
theorem lX8_137 : MV RX8 137 mX1_childCount 1 := ⟨⟨TG_in (List.mem_append_right _ (List.mem_of_getElem? (i := 405) (by decide +kernel))) (by decide +kernel), kiX1, kcX1_childCount, ⟨by decide +kernel, by decide +kernel⟩, by decide +kernel⟩, knX1_childCount, kvX1_childCount⟩
theorem lX8_140 : MV RX8 140 mX1_shiftChild 3 := ⟨⟨TG_in (List.mem_append_right _ (List.mem_of_getElem? (i := 409) (by decide +kernel))) (by decide +kernel), kiX1, kcX1_shiftChild, ⟨by decide +kernel, by decide +kernel⟩, by decide +kernel⟩, knX1_shiftChild, kvX1_shiftChild⟩
theorem lX1_36 : MS RX1 36 mJ9_abs_0f7a4 1 := ⟨⟨TG_in (List.mem_append_right _ (List.mem_of_getElem? (i := 413) (by decide +kernel))) (by decide +kernel), kiJ9, kcJ9_abs_0f7a4, ⟨by decide +kernel, by decide +kernel⟩, by decide +kernel⟩, ksJ9_abs_0f7a4⟩
theorem lL_35 : MV RL 35 mX8_edit 1 := ⟨⟨TG_in (List.mem_append_right _ (List.mem_of_getElem? (i := 416) (by decide +kernel))) (by decide +kernel), kiX8, kcX8_edit, ⟨by decide +kernel, by decide +kernel⟩, by decide +kernel⟩, knX8_edit, kvX8_edit⟩
theorem lX8_144 : MV RX8 144 mX2_hasText 2 := ⟨⟨TG_in (List.mem_append_right _ (List.mem_of_getElem? (i := 420) (by decide +kernel))) (by decide +kernel), kiX2, kcX2_hasText, ⟨by decide +kernel, by decide +kernel⟩, by decide +kernel⟩, knX2_hasText, kvX2_hasText⟩
theorem lX2_48 : MV RX2 48 mX2_lengthOf 1 := ⟨⟨TG_in (List.mem_append_right _ (List.mem_of_getElem? (i := 424) (by decide +kernel))) (by decide +kernel), kiX2, kcX2_lengthOf, ⟨by decide +kernel, by decide +kernel⟩, by decide +kernel⟩, knX2_lengthOf, kvX2_lengthOf⟩
theorem lX2_51 : MV RX2 51 mX2_codeAt 2 := ⟨⟨TG_in (List.mem_append_right _ (List.mem_of_getElem? (i := 428) (by decide +kernel))) (by decide +kernel), kiX2, kcX2_codeAt, ⟨by decide +kernel, by decide +kernel⟩, by decide +kernel⟩, knX2_codeAt, kvX2_codeAt⟩
theorem lL_39 : MV RL 39 mX8_mark 2 := ⟨⟨TG_in (List.mem_append_right _ (List.mem_of_getElem? (i := 432) (by decide +kernel))) (by decide +kernel), kiX8, kcX8_mark, ⟨by decide +kernel, by decide +kernel⟩, by decide +kernel⟩, knX8_mark, kvX8_mark⟩
theorem lX8_151 : MS RX8 151 mX8_isMark 1 := ⟨⟨TG_in (List.mem_append_right _ (List.mem_of_getElem? (i := 436) (by decide +kernel))) (by decide +kernel), kiX8, kcX8_isMark, ⟨by decide +kernel, by decide +kernel⟩, by decide +kernel⟩, ksX8_isMark⟩
theorem lX8_155 : MV RX8 155 mX2_toggleMark 2 := ⟨⟨TG_in (List.mem_append_right _ (List.mem_of_getElem? (i := 439) (by decide +kernel))) (by decide +kernel), kiX2, kcX2_toggleMark, ⟨by decide +kernel, by decide +kernel⟩, by decide +kernel⟩, knX2_toggleMark, kvX2_toggleMark⟩
theorem lX2_54 : MSn RX2 54 mX8_isMark 1 := ⟨⟨(by decide +kernel), kiX8, kcX8_isMark, ⟨by decide +kernel, by decide +kernel⟩, by decide +kernel⟩, ksX8_isMark⟩
theorem lX8_158 : MV RX8 158 mX2_marksOf 1 := ⟨⟨TG_in (List.mem_append_right _ (List.mem_of_getElem? (i := 444) (by decide +kernel))) (by decide +kernel), kiX2, kcX2_marksOf, ⟨by decide +kernel, by decide +kernel⟩, by decide +kernel⟩, knX2_marksOf, kvX2_marksOf⟩
theorem lL_43 : MV RL 43 mX8_fold 2 := ⟨⟨TG_in (List.mem_append_right _ (List.mem_of_getElem? (i := 448) (by decide +kernel))) (by decide +kernel), kiX8, kcX8_fold, ⟨by decide +kernel, by decide +kernel⟩, by decide +kernel⟩, knX8_fold, kvX8_fold⟩
theorem lX8_161 : MV RX8 161 mX3_hasChildren 1 := ⟨⟨TG_in (List.mem_append_right _ (List.mem_of_getElem? (i := 452) (by decide +kernel))) (by decide +kernel), kiX3, kcX3_hasChildren, ⟨by decide +kernel, by decide +kernel⟩, by decide +kernel⟩, knX3_hasChildren, kvX3_hasChildren⟩
theorem lX8_164 : MV RX8 164 mX3_foldOf 1 := ⟨⟨TG_in (List.mem_append_right _ (List.mem_of_getElem? (i := 456) (by decide +kernel))) (by decide +kernel), kiX3, kcX3_foldOf, ⟨by decide +kernel, by decide +kernel⟩, by decide +kernel⟩, knX3_foldOf, kvX3_foldOf⟩
theorem lX8_167 : MV RX8 167 mX3_setFold 2 := ⟨⟨TG_in (List.mem_append_right _ (List.mem_of_getElem? (i := 457) (by decide +kernel))) (by decide +kernel), kiX3, kcX3_setFold, ⟨by decide +kernel, by decide +kernel⟩, by decide +kernel⟩, knX3_setFold, kvX3_setFold⟩
theorem lL_48 : MV RL 48 mX8_foldLevel 1 := ⟨⟨TG_in (List.mem_append_right _ (List.mem_of_getElem? (i := 461) (by decide +kernel))) (by decide +kernel), kiX8, kcX8_foldLevel, ⟨by decide +kernel, by decide +kernel⟩, by decide +kernel⟩, knX8_foldLevel, kvX8_foldLevel⟩
theorem lX8_173 : MV RX8 173 mX3_foldAtLevel 1 := ⟨⟨TG_in (List.mem_append_right _ (List.mem_of_getElem? (i := 465) (by decide +kernel))) (by decide +kernel), kiX3, kcX3_foldAtLevel, ⟨by decide +kernel, by decide +kernel⟩, by decide +kernel⟩, knX3_foldAtLevel, kvX3_foldAtLevel⟩
theorem lX3_58 : MV RX3 58 mX3_hasChildren 1 := ⟨⟨TG_in (List.mem_append_right _ (List.mem_of_getElem? (i := 469) (by decide +kernel))) (by decide +kernel), kiX3, kcX3_hasChildren, ⟨by decide +kernel, by decide +kernel⟩, by decide +kernel⟩, knX3_hasChildren, kvX3_hasChildren⟩
theorem lL_52 : MV RL 52 mX8_show 1 := ⟨⟨TG_in (List.mem_append_right _ (List.mem_of_getElem? (i := 470) (by decide +kernel))) (by decide +kernel), kiX8, kcX8_show, ⟨by decide +kernel, by decide +kernel⟩, by decide +kernel⟩, knX8_show, kvX8_show⟩
theorem lX8_176 : MV RX8 176 mX3_firstOf 1 := ⟨⟨TG_in (List.mem_append_right _ (List.mem_of_getElem? (i := 474) (by decide +kernel))) (by decide +kernel), kiX3, kcX3_firstOf, ⟨by decide +kernel, by decide +kernel⟩, by decide +kernel⟩, knX3_firstOf, kvX3_firstOf⟩
theorem lX8_179 : MV RX8 179 mX3_unfoldAround 1 := ⟨⟨TG_in (List.mem_append_right _ (List.mem_of_getElem? (i := 478) (by decide +kernel))) (by decide +kernel), kiX3, kcX3_unfoldAround, ⟨by decide +kernel, by decide +kernel⟩, by decide +kernel⟩, knX3_unfoldAround, kvX3_unfoldAround⟩
theorem lX8_182 : MV RX8 182 mX5_rowOf 1 := ⟨⟨TG_in (List.mem_append_right _ (List.mem_of_getElem? (i := 482) (by decide +kernel))) (by decide +kernel), kiX5, kcX5_rowOf, ⟨by decide +kernel, by decide +kernel⟩, by decide +kernel⟩, knX5_rowOf, kvX5_rowOf⟩
theorem lL_56 : MV RL 56 mX8_type 1 := ⟨⟨TG_in (List.mem_append_right _ (List.mem_of_getElem? (i := 486) (by decide +kernel))) (by decide +kernel), kiX8, kcX8_type, ⟨by decide +kernel, by decide +kernel⟩, by decide +kernel⟩, knX8_type, kvX8_type⟩
theorem lX8_185 : MV RX8 185 mX7_append 1 := ⟨⟨TG_in (List.mem_append_right _ (List.mem_of_getElem? (i := 490) (by decide +kernel))) (by decide +kernel), kiX7, kcX7_append, ⟨by decide +kernel, by decide +kernel⟩, by decide +kernel⟩, knX7_append, kvX7_append⟩
theorem lL_61 : MV RL 61 mX8_clearText 0 := ⟨⟨TG_in (List.mem_append_right _ (List.mem_of_getElem? (i := 494) (by decide +kernel))) (by decide +kernel), kiX8, kcX8_clearText, ⟨by decide +kernel, by decide +kernel⟩, by decide +kernel⟩, knX8_clearText, kvX8_clearText⟩
theorem lL_66 : MV RL 66 mX8_readOutline 0 := ⟨⟨TG_in (List.mem_append_right _ (List.mem_of_getElem? (i := 498) (by decide +kernel))) (by decide +kernel), kiX8, kcX8_readOutline, ⟨by decide +kernel, by decide +kernel⟩, by decide +kernel⟩, knX8_readOutline, kvX8_readOutline⟩
theorem lX8_192 : MV RX8 192 mX6_clearNodes 0 := ⟨⟨TG_in (List.mem_append_right _ (List.mem_of_getElem? (i := 502) (by decide +kernel))) (by decide +kernel), kiX6, kcX6_clearNodes, ⟨by decide +kernel, by decide +kernel⟩, by decide +kernel⟩, knX6_clearNodes, kvX6_clearNodes⟩
theorem lX8_195 : MV RX8 195 mX4_read 2 := ⟨⟨TG_in (List.mem_append_right _ (List.mem_of_getElem? (i := 506) (by decide +kernel))) (by decide +kernel), kiX4, kcX4_read, ⟨by decide +kernel, by decide +kernel⟩, by decide +kernel⟩, knX4_read, kvX4_read⟩
theorem lX4_18 : MV RX4 18 mX4_begin 0 := ⟨⟨TG_in (List.mem_append_right _ (List.mem_of_getElem? (i := 510) (by decide +kernel))) (by decide +kernel), kiX4, kcX4_begin, ⟨by decide +kernel, by decide +kernel⟩, by decide +kernel⟩, knX4_begin, kvX4_begin⟩
theorem lX4_27 : MV RX4 27 mX7_codeAt 1 := ⟨⟨TG_in (List.mem_append_right _ (List.mem_of_getElem? (i := 514) (by decide +kernel))) (by decide +kernel), kiX7, kcX7_codeAt, ⟨by decide +kernel, by decide +kernel⟩, by decide +kernel⟩, knX7_codeAt, kvX7_codeAt⟩
theorem lX4_35 : MV RX4 35 mX4_takeLetter 2 := ⟨⟨TG_in (List.mem_append_right _ (List.mem_of_getElem? (i := 515) (by decide +kernel))) (by decide +kernel), kiX4, kcX4_takeLetter, ⟨by decide +kernel, by decide +kernel⟩, by decide +kernel⟩, knX4_takeLetter, kvX4_takeLetter⟩
theorem lX4_55 : MV RX4 55 mX2_makeNode 0 := ⟨⟨TG_in (List.mem_append_right _ (List.mem_of_getElem? (i := 519) (by decide +kernel))) (by decide +kernel), kiX2, kcX2_makeNode, ⟨by decide +kernel, by decide +kernel⟩, by decide +kernel⟩, knX2_makeNode, kvX2_makeNode⟩
theorem lX4_61 : MV RX4 61 mX2_setLetter 2 := ⟨⟨TG_in (List.mem_append_right _ (List.mem_of_getElem? (i := 520) (by decide +kernel))) (by decide +kernel), kiX2, kcX2_setLetter, ⟨by decide +kernel, by decide +kernel⟩, by decide +kernel⟩, knX2_setLetter, kvX2_setLetter⟩
theorem lX4_65 : MV RX4 65 mX4_isOpen 1 := ⟨⟨TG_in (List.mem_append_right _ (List.mem_of_getElem? (i := 524) (by decide +kernel))) (by decide +kernel), kiX4, kcX4_isOpen, ⟨by decide +kernel, by decide +kernel⟩, by decide +kernel⟩, knX4_isOpen, kvX4_isOpen⟩
theorem lX4_72 : MV RX4 72 mX1_indexOf 2 := ⟨⟨TG_in (List.mem_append_right _ (List.mem_of_getElem? (i := 528) (by decide +kernel))) (by decide +kernel), kiX1, kcX1_indexOf, ⟨by decide +kernel, by decide +kernel⟩, by decide +kernel⟩, knX1_indexOf, kvX1_indexOf⟩
theorem lX4_78 : MV RX4 78 mX1_append 2 := ⟨⟨TG_in (List.mem_append_right _ (List.mem_of_getElem? (i := 529) (by decide +kernel))) (by decide +kernel), kiX1, kcX1_append, ⟨by decide +kernel, by decide +kernel⟩, by decide +kernel⟩, knX1_append, kvX1_append⟩
theorem lX4_39 : MV RX4 39 mX4_takeSign 1 := ⟨⟨TG_in (List.mem_append_right _ (List.mem_of_getElem? (i := 530) (by decide +kernel))) (by decide +kernel), kiX4, kcX4_takeSign, ⟨by decide +kernel, by decide +kernel⟩, by decide +kernel⟩, knX4_takeSign, kvX4_takeSign⟩
theorem lX8_199 : MV RX8 199 mX6_placeAnew 0 := ⟨⟨TG_in (List.mem_append_right _ (List.mem_of_getElem? (i := 534) (by decide +kernel))) (by decide +kernel), kiX6, kcX6_placeAnew, ⟨by decide +kernel, by decide +kernel⟩, by decide +kernel⟩, knX6_placeAnew, kvX6_placeAnew⟩
theorem lL_70 : MV RL 70 mX8_undo 0 := ⟨⟨TG_in (List.mem_append_right _ (List.mem_of_getElem? (i := 538) (by decide +kernel))) (by decide +kernel), kiX8, kcX8_undo, ⟨by decide +kernel, by decide +kernel⟩, by decide +kernel⟩, knX8_undo, kvX8_undo⟩
theorem lX8_203 : MV RX8 203 mX0_popInto 1 := ⟨⟨TG_in (List.mem_append_right _ (List.mem_of_getElem? (i := 542) (by decide +kernel))) (by decide +kernel), kiX0, kcX0_popInto, ⟨by decide +kernel, by decide +kernel⟩, by decide +kernel⟩, knX0_popInto, kvX0_popInto⟩
theorem lL_74 : MV RL 74 mX8_keep 0 := ⟨⟨TG_in (List.mem_append_right _ (List.mem_of_getElem? (i := 546) (by decide +kernel))) (by decide +kernel), kiX8, kcX8_keep, ⟨by decide +kernel, by decide +kernel⟩, by decide +kernel⟩, knX8_keep, kvX8_keep⟩
theorem lL_78 : MV RL 78 mX8_restore 0 := ⟨⟨TG_in (List.mem_append_right _ (List.mem_of_getElem? (i := 550) (by decide +kernel))) (by decide +kernel), kiX8, kcX8_restore, ⟨by decide +kernel, by decide +kernel⟩, by decide +kernel⟩, knX8_restore, kvX8_restore⟩
theorem lL_82 : MV RL 82 mX8_row 2 := ⟨⟨TG_in (List.mem_append_right _ (List.mem_of_getElem? (i := 554) (by decide +kernel))) (by decide +kernel), kiX8, kcX8_row, ⟨by decide +kernel, by decide +kernel⟩, by decide +kernel⟩, knX8_row, kvX8_row⟩
theorem lX8_212 : MV RX8 212 mX3_levelOf 1 := ⟨⟨TG_in (List.mem_append_right _ (List.mem_of_getElem? (i := 558) (by decide +kernel))) (by decide +kernel), kiX3, kcX3_levelOf, ⟨by decide +kernel, by decide +kernel⟩, by decide +kernel⟩, knX3_levelOf, kvX3_levelOf⟩
theorem lX8_215 : MV RX8 215 mX8_positionAt 1 := ⟨⟨TG_in (List.mem_append_right _ (List.mem_of_getElem? (i := 559) (by decide +kernel))) (by decide +kernel), kiX8, kcX8_positionAt, ⟨by decide +kernel, by decide +kernel⟩, by decide +kernel⟩, knX8_positionAt, kvX8_positionAt⟩
theorem lX8_218 : MV RX8 218 mX8_parentRow 1 := ⟨⟨TG_in (List.mem_append_right _ (List.mem_of_getElem? (i := 563) (by decide +kernel))) (by decide +kernel), kiX8, kcX8_parentRow, ⟨by decide +kernel, by decide +kernel⟩, by decide +kernel⟩, knX8_parentRow, kvX8_parentRow⟩
theorem lX8_221 : MV RX8 221 mX3_endOf 1 := ⟨⟨TG_in (List.mem_append_right _ (List.mem_of_getElem? (i := 567) (by decide +kernel))) (by decide +kernel), kiX3, kcX3_endOf, ⟨by decide +kernel, by decide +kernel⟩, by decide +kernel⟩, knX3_endOf, kvX3_endOf⟩
theorem lX8_224 : MV RX8 224 mX5_seenBetween 2 := ⟨⟨TG_in (List.mem_append_right _ (List.mem_of_getElem? (i := 568) (by decide +kernel))) (by decide +kernel), kiX5, kcX5_seenBetween, ⟨by decide +kernel, by decide +kernel⟩, by decide +kernel⟩, knX5_seenBetween, kvX5_seenBetween⟩
theorem lX5_31 : MV RX5 31 mX5_rowOf 1 := ⟨⟨TG_in (List.mem_append_right _ (List.mem_of_getElem? (i := 572) (by decide +kernel))) (by decide +kernel), kiX5, kcX5_rowOf, ⟨by decide +kernel, by decide +kernel⟩, by decide +kernel⟩, knX5_rowOf, kvX5_rowOf⟩
theorem lL_86 : MV RL 86 mX8_number 2 := ⟨⟨TG_in (List.mem_append_right _ (List.mem_of_getElem? (i := 573) (by decide +kernel))) (by decide +kernel), kiX8, kcX8_number, ⟨by decide +kernel, by decide +kernel⟩, by decide +kernel⟩, knX8_number, kvX8_number⟩
theorem lX8_227 : MV RX8 227 mX3_atLevel 2 := ⟨⟨TG_in (List.mem_append_right _ (List.mem_of_getElem? (i := 577) (by decide +kernel))) (by decide +kernel), kiX3, kcX3_atLevel, ⟨by decide +kernel, by decide +kernel⟩, by decide +kernel⟩, knX3_atLevel, kvX3_atLevel⟩
theorem lL_90 : MV RL 90 mX8_charAt 2 := ⟨⟨TG_in (List.mem_append_right _ (List.mem_of_getElem? (i := 578) (by decide +kernel))) (by decide +kernel), kiX8, kcX8_charAt, ⟨by decide +kernel, by decide +kernel⟩, by decide +kernel⟩, knX8_charAt, kvX8_charAt⟩
theorem lX8_230 : MV RX8 230 mX2_lengthOf 1 := ⟨⟨TG_in (List.mem_append_right _ (List.mem_of_getElem? (i := 582) (by decide +kernel))) (by decide +kernel), kiX2, kcX2_lengthOf, ⟨by decide +kernel, by decide +kernel⟩, by decide +kernel⟩, knX2_lengthOf, kvX2_lengthOf⟩
theorem lX8_233 : MV RX8 233 mX2_codeAt 2 := ⟨⟨TG_in (List.mem_append_right _ (List.mem_of_getElem? (i := 583) (by decide +kernel))) (by decide +kernel), kiX2, kcX2_codeAt, ⟨by decide +kernel, by decide +kernel⟩, by decide +kernel⟩, knX2_codeAt, kvX2_codeAt⟩
theorem lL_94 : MV RL 94 mX8_node 2 := ⟨⟨TG_in (List.mem_append_right _ (List.mem_of_getElem? (i := 584) (by decide +kernel))) (by decide +kernel), kiX8, kcX8_node, ⟨by decide +kernel, by decide +kernel⟩, by decide +kernel⟩, knX8_node, kvX8_node⟩
theorem lX8_236 : MV RX8 236 mX1_parentCount 1 := ⟨⟨TG_in (List.mem_append_right _ (List.mem_of_getElem? (i := 588) (by decide +kernel))) (by decide +kernel), kiX1, kcX1_parentCount, ⟨by decide +kernel, by decide +kernel⟩, by decide +kernel⟩, knX1_parentCount, kvX1_parentCount⟩
theorem lX8_239 : MV RX8 239 mX5_seenOf 2 := ⟨⟨TG_in (List.mem_append_right _ (List.mem_of_getElem? (i := 592) (by decide +kernel))) (by decide +kernel), kiX5, kcX5_seenOf, ⟨by decide +kernel, by decide +kernel⟩, by decide +kernel⟩, knX5_seenOf, kvX5_seenOf⟩
theorem lX5_35 : MV RX5 35 mX3_nodeOf 1 := ⟨⟨TG_in (List.mem_append_right _ (List.mem_of_getElem? (i := 596) (by decide +kernel))) (by decide +kernel), kiX3, kcX3_nodeOf, ⟨by decide +kernel, by decide +kernel⟩, by decide +kernel⟩, knX3_nodeOf, kvX3_nodeOf⟩
theorem lX8_243 : MV RX8 243 mX5_firstOf 2 := ⟨⟨TG_in (List.mem_append_right _ (List.mem_of_getElem? (i := 597) (by decide +kernel))) (by decide +kernel), kiX5, kcX5_firstOf, ⟨by decide +kernel, by decide +kernel⟩, by decide +kernel⟩, knX5_firstOf, kvX5_firstOf⟩
theorem lX8_249 : MS RX8 249 mJ13_bitCount_95d88 1 := ⟨⟨TG_in (List.mem_append_right _ (List.mem_of_getElem? (i := 601) (by decide +kernel))) (by decide +kernel), kiJ13, kcJ13_bitCount_95d88, ⟨by decide +kernel, by decide +kernel⟩, by decide +kernel⟩, ksJ13_bitCount_95d88⟩
theorem lL_98 : MV RL 98 mX8_nextMarked 2 := ⟨⟨TG_in (List.mem_append_right _ (List.mem_of_getElem? (i := 602) (by decide +kernel))) (by decide +kernel), kiX8, kcX8_nextMarked, ⟨by decide +kernel, by decide +kernel⟩, by decide +kernel⟩, knX8_nextMarked, kvX8_nextMarked⟩
theorem lL_102 : MV RL 102 mX8_find 1 := ⟨⟨TG_in (List.mem_append_right _ (List.mem_of_getElem? (i := 606) (by decide +kernel))) (by decide +kernel), kiX8, kcX8_find, ⟨by decide +kernel, by decide +kernel⟩, by decide +kernel⟩, knX8_find, kvX8_find⟩
theorem lL_106 : MV RL 106 mX8_count 1 := ⟨⟨TG_in (List.mem_append_right _ (List.mem_of_getElem? (i := 610) (by decide +kernel))) (by decide +kernel), kiX8, kcX8_count, ⟨by decide +kernel, by decide +kernel⟩, by decide +kernel⟩, knX8_count, kvX8_count⟩
theorem lX8_254 : MV RX8 254 mX3_foldedCount 0 := ⟨⟨TG_in (List.mem_append_right _ (List.mem_of_getElem? (i := 614) (by decide +kernel))) (by decide +kernel), kiX3, kcX3_foldedCount, ⟨by decide +kernel, by decide +kernel⟩, by decide +kernel⟩, knX3_foldedCount, kvX3_foldedCount⟩
theorem lX8_257 : MV RX8 257 mX1_sharedCount 0 := ⟨⟨TG_in (List.mem_append_right _ (List.mem_of_getElem? (i := 618) (by decide +kernel))) (by decide +kernel), kiX1, kcX1_sharedCount, ⟨by decide +kernel, by decide +kernel⟩, by decide +kernel⟩, knX1_sharedCount, kvX1_sharedCount⟩
theorem lX1_32 : MV RX1 32 mX1_parentCount 1 := ⟨⟨TG_in (List.mem_append_right _ (List.mem_of_getElem? (i := 622) (by decide +kernel))) (by decide +kernel), kiX1, kcX1_parentCount, ⟨by decide +kernel, by decide +kernel⟩, by decide +kernel⟩, knX1_parentCount, kvX1_parentCount⟩
theorem lX8_260 : MV RX8 260 mX3_greatestLevel 0 := ⟨⟨TG_in (List.mem_append_right _ (List.mem_of_getElem? (i := 623) (by decide +kernel))) (by decide +kernel), kiX3, kcX3_greatestLevel, ⟨by decide +kernel, by decide +kernel⟩, by decide +kernel⟩, knX3_greatestLevel, kvX3_greatestLevel⟩
theorem lL_12 : MI RL 12 mX9_init 0 := ⟨⟨TG_in (List.mem_append_right _ (List.mem_of_getElem? (i := 629) (by decide +kernel))) (by decide +kernel), kiX9, kcX9_init, ⟨by decide +kernel, by decide +kernel⟩, by decide +kernel⟩, knX9_init, rfl, rfl⟩
theorem oiX9 : Cond.methodLink RX9 1 objectInit ∈ TG := TG_in (List.mem_append_right _ (List.mem_of_getElem? (i := 632) (by decide +kernel))) (by decide +kernel)
theorem lL_17 : MV RL 17 mX9_add 1 := ⟨⟨TG_in (List.mem_append_right _ (List.mem_of_getElem? (i := 696) (by decide +kernel))) (by decide +kernel), kiX9, kcX9_add, ⟨by decide +kernel, by decide +kernel⟩, by decide +kernel⟩, knX9_add, kvX9_add⟩
theorem lX9_98 : MV RX9 98 mX9_nodeOf 1 := ⟨⟨TG_in (List.mem_append_right _ (List.mem_of_getElem? (i := 700) (by decide +kernel))) (by decide +kernel), kiX9, kcX9_nodeOf, ⟨by decide +kernel, by decide +kernel⟩, by decide +kernel⟩, knX9_nodeOf, kvX9_nodeOf⟩
theorem lX9_88 : MV RX9 88 mX9_placeOf 1 := ⟨⟨TG_in (List.mem_append_right _ (List.mem_of_getElem? (i := 704) (by decide +kernel))) (by decide +kernel), kiX9, kcX9_placeOf, ⟨by decide +kernel, by decide +kernel⟩, by decide +kernel⟩, knX9_placeOf, kvX9_placeOf⟩
theorem lX9_80 : MV RX9 80 mX9_isSeen 1 := ⟨⟨TG_in (List.mem_append_right _ (List.mem_of_getElem? (i := 708) (by decide +kernel))) (by decide +kernel), kiX9, kcX9_isSeen, ⟨by decide +kernel, by decide +kernel⟩, by decide +kernel⟩, knX9_isSeen, kvX9_isSeen⟩
theorem lX9_77 : MV RX9 77 mX9_at 2 := ⟨⟨TG_in (List.mem_append_right _ (List.mem_of_getElem? (i := 712) (by decide +kernel))) (by decide +kernel), kiX9, kcX9_at, ⟨by decide +kernel, by decide +kernel⟩, by decide +kernel⟩, knX9_at, kvX9_at⟩
theorem lX9_101 : MS RX9 101 mX9_in 3 := ⟨⟨TG_in (List.mem_append_right _ (List.mem_of_getElem? (i := 716) (by decide +kernel))) (by decide +kernel), kiX9, kcX9_in, ⟨by decide +kernel, by decide +kernel⟩, by decide +kernel⟩, ksX9_in⟩
theorem lX9_105 : MV RX9 105 mX9_takeSpare 0 := ⟨⟨TG_in (List.mem_append_right _ (List.mem_of_getElem? (i := 719) (by decide +kernel))) (by decide +kernel), kiX9, kcX9_takeSpare, ⟨by decide +kernel, by decide +kernel⟩, by decide +kernel⟩, knX9_takeSpare, kvX9_takeSpare⟩
theorem lX9_108 : MV RX9 108 mX9_make 1 := ⟨⟨TG_in (List.mem_append_right _ (List.mem_of_getElem? (i := 723) (by decide +kernel))) (by decide +kernel), kiX9, kcX9_make, ⟨by decide +kernel, by decide +kernel⟩, by decide +kernel⟩, knX9_make, kvX9_make⟩
theorem lX9_91 : MV RX9 91 mX9_to 3 := ⟨⟨TG_in (List.mem_append_right _ (List.mem_of_getElem? (i := 727) (by decide +kernel))) (by decide +kernel), kiX9, kcX9_to, ⟨by decide +kernel, by decide +kernel⟩, by decide +kernel⟩, knX9_to, kvX9_to⟩
theorem lX9_112 : MV RX9 112 mX9_writeText 1 := ⟨⟨TG_in (List.mem_append_right _ (List.mem_of_getElem? (i := 731) (by decide +kernel))) (by decide +kernel), kiX9, kcX9_writeText, ⟨by decide +kernel, by decide +kernel⟩, by decide +kernel⟩, knX9_writeText, kvX9_writeText⟩
theorem lX9_115 : MV RX9 115 mX9_addKid 2 := ⟨⟨TG_in (List.mem_append_right _ (List.mem_of_getElem? (i := 735) (by decide +kernel))) (by decide +kernel), kiX9, kcX9_addKid, ⟨by decide +kernel, by decide +kernel⟩, by decide +kernel⟩, knX9_addKid, kvX9_addKid⟩
theorem lX9_64 : MV RX9 64 mX9_of 2 := ⟨⟨TG_in (List.mem_append_right _ (List.mem_of_getElem? (i := 739) (by decide +kernel))) (by decide +kernel), kiX9, kcX9_of, ⟨by decide +kernel, by decide +kernel⟩, by decide +kernel⟩, knX9_of, kvX9_of⟩
theorem lX9_119 : MV RX9 119 mX9_layPlaces 0 := ⟨⟨TG_in (List.mem_append_right _ (List.mem_of_getElem? (i := 743) (by decide +kernel))) (by decide +kernel), kiX9, kcX9_layPlaces, ⟨by decide +kernel, by decide +kernel⟩, by decide +kernel⟩, knX9_layPlaces, kvX9_layPlaces⟩
theorem lX9_71 : MV RX9 71 mX9_kid 2 := ⟨⟨TG_in (List.mem_append_right _ (List.mem_of_getElem? (i := 747) (by decide +kernel))) (by decide +kernel), kiX9, kcX9_kid, ⟨by decide +kernel, by decide +kernel⟩, by decide +kernel⟩, knX9_kid, kvX9_kid⟩
theorem lX9_74 : MV RX9 74 mX9_spareChild 2 := ⟨⟨TG_in (List.mem_append_right _ (List.mem_of_getElem? (i := 751) (by decide +kernel))) (by decide +kernel), kiX9, kcX9_spareChild, ⟨by decide +kernel, by decide +kernel⟩, by decide +kernel⟩, knX9_spareChild, kvX9_spareChild⟩
theorem lX9_68 : MV RX9 68 mX9_spareAt 2 := ⟨⟨TG_in (List.mem_append_right _ (List.mem_of_getElem? (i := 755) (by decide +kernel))) (by decide +kernel), kiX9, kcX9_spareAt, ⟨by decide +kernel, by decide +kernel⟩, by decide +kernel⟩, knX9_spareAt, kvX9_spareAt⟩
theorem lX9_123 : MV RX9 123 mX9_putBack 0 := ⟨⟨TG_in (List.mem_append_right _ (List.mem_of_getElem? (i := 759) (by decide +kernel))) (by decide +kernel), kiX9, kcX9_putBack, ⟨by decide +kernel, by decide +kernel⟩, by decide +kernel⟩, knX9_putBack, kvX9_putBack⟩
theorem lX9_126 : MV RX9 126 mX9_record 0 := ⟨⟨TG_in (List.mem_append_right _ (List.mem_of_getElem? (i := 763) (by decide +kernel))) (by decide +kernel), kiX9, kcX9_record, ⟨by decide +kernel, by decide +kernel⟩, by decide +kernel⟩, knX9_record, kvX9_record⟩
theorem lL_22 : MV RL 22 mX9_cloneTo 2 := ⟨⟨TG_in (List.mem_append_right _ (List.mem_of_getElem? (i := 767) (by decide +kernel))) (by decide +kernel), kiX9, kcX9_cloneTo, ⟨by decide +kernel, by decide +kernel⟩, by decide +kernel⟩, knX9_cloneTo, kvX9_cloneTo⟩
theorem lX9_135 : MV RX9 135 mX9_mayStand 2 := ⟨⟨TG_in (List.mem_append_right _ (List.mem_of_getElem? (i := 771) (by decide +kernel))) (by decide +kernel), kiX9, kcX9_mayStand, ⟨by decide +kernel, by decide +kernel⟩, by decide +kernel⟩, knX9_mayStand, kvX9_mayStand⟩
theorem lX9_129 : MV RX9 129 mX9_layWithin 1 := ⟨⟨TG_in (List.mem_append_right _ (List.mem_of_getElem? (i := 775) (by decide +kernel))) (by decide +kernel), kiX9, kcX9_layWithin, ⟨by decide +kernel, by decide +kernel⟩, by decide +kernel⟩, knX9_layWithin, kvX9_layWithin⟩
theorem lX9_132 : MV RX9 132 mX9_position 2 := ⟨⟨TG_in (List.mem_append_right _ (List.mem_of_getElem? (i := 779) (by decide +kernel))) (by decide +kernel), kiX9, kcX9_position, ⟨by decide +kernel, by decide +kernel⟩, by decide +kernel⟩, knX9_position, kvX9_position⟩
theorem lX9_139 : MV RX9 139 mX9_placesOf 1 := ⟨⟨TG_in (List.mem_append_right _ (List.mem_of_getElem? (i := 783) (by decide +kernel))) (by decide +kernel), kiX9, kcX9_placesOf, ⟨by decide +kernel, by decide +kernel⟩, by decide +kernel⟩, knX9_placesOf, kvX9_placesOf⟩
theorem lL_26 : MV RL 26 mX9_move 2 := ⟨⟨TG_in (List.mem_append_right _ (List.mem_of_getElem? (i := 787) (by decide +kernel))) (by decide +kernel), kiX9, kcX9_move, ⟨by decide +kernel, by decide +kernel⟩, by decide +kernel⟩, knX9_move, kvX9_move⟩
theorem lX9_142 : MV RX9 142 mX9_parent 1 := ⟨⟨TG_in (List.mem_append_right _ (List.mem_of_getElem? (i := 791) (by decide +kernel))) (by decide +kernel), kiX9, kcX9_parent, ⟨by decide +kernel, by decide +kernel⟩, by decide +kernel⟩, knX9_parent, kvX9_parent⟩
theorem lX9_84 : MV RX9 84 mX9_around 1 := ⟨⟨TG_in (List.mem_append_right _ (List.mem_of_getElem? (i := 795) (by decide +kernel))) (by decide +kernel), kiX9, kcX9_around, ⟨by decide +kernel, by decide +kernel⟩, by decide +kernel⟩, knX9_around, kvX9_around⟩
theorem lX9_145 : MV RX9 145 mX9_takeKid 2 := ⟨⟨TG_in (List.mem_append_right _ (List.mem_of_getElem? (i := 799) (by decide +kernel))) (by decide +kernel), kiX9, kcX9_takeKid, ⟨by decide +kernel, by decide +kernel⟩, by decide +kernel⟩, knX9_takeKid, kvX9_takeKid⟩
theorem lL_30 : MV RL 30 mX9_cut 1 := ⟨⟨TG_in (List.mem_append_right _ (List.mem_of_getElem? (i := 803) (by decide +kernel))) (by decide +kernel), kiX9, kcX9_cut, ⟨by decide +kernel, by decide +kernel⟩, by decide +kernel⟩, knX9_cut, kvX9_cut⟩
theorem lL_34 : MV RL 34 mX9_shift 2 := ⟨⟨TG_in (List.mem_append_right _ (List.mem_of_getElem? (i := 807) (by decide +kernel))) (by decide +kernel), kiX9, kcX9_shift, ⟨by decide +kernel, by decide +kernel⟩, by decide +kernel⟩, knX9_shift, kvX9_shift⟩
theorem lL_38 : MV RL 38 mX9_edit 1 := ⟨⟨TG_in (List.mem_append_right _ (List.mem_of_getElem? (i := 811) (by decide +kernel))) (by decide +kernel), kiX9, kcX9_edit, ⟨by decide +kernel, by decide +kernel⟩, by decide +kernel⟩, knX9_edit, kvX9_edit⟩
theorem lX9_148 : MV RX9 148 mX9_hasText 1 := ⟨⟨TG_in (List.mem_append_right _ (List.mem_of_getElem? (i := 815) (by decide +kernel))) (by decide +kernel), kiX9, kcX9_hasText, ⟨by decide +kernel, by decide +kernel⟩, by decide +kernel⟩, knX9_hasText, kvX9_hasText⟩
theorem lL_42 : MV RL 42 mX9_mark 2 := ⟨⟨TG_in (List.mem_append_right _ (List.mem_of_getElem? (i := 819) (by decide +kernel))) (by decide +kernel), kiX9, kcX9_mark, ⟨by decide +kernel, by decide +kernel⟩, by decide +kernel⟩, knX9_mark, kvX9_mark⟩
theorem lL_47 : MV RL 47 mX9_fold 2 := ⟨⟨TG_in (List.mem_append_right _ (List.mem_of_getElem? (i := 823) (by decide +kernel))) (by decide +kernel), kiX9, kcX9_fold, ⟨by decide +kernel, by decide +kernel⟩, by decide +kernel⟩, knX9_fold, kvX9_fold⟩
theorem lX9_151 : MV RX9 151 mX9_hasKids 1 := ⟨⟨TG_in (List.mem_append_right _ (List.mem_of_getElem? (i := 827) (by decide +kernel))) (by decide +kernel), kiX9, kcX9_hasKids, ⟨by decide +kernel, by decide +kernel⟩, by decide +kernel⟩, knX9_hasKids, kvX9_hasKids⟩
theorem lX9_154 : MV RX9 154 mX9_rows 0 := ⟨⟨TG_in (List.mem_append_right _ (List.mem_of_getElem? (i := 831) (by decide +kernel))) (by decide +kernel), kiX9, kcX9_rows, ⟨by decide +kernel, by decide +kernel⟩, by decide +kernel⟩, knX9_rows, kvX9_rows⟩
theorem lL_51 : MV RL 51 mX9_foldLevel 1 := ⟨⟨TG_in (List.mem_append_right _ (List.mem_of_getElem? (i := 835) (by decide +kernel))) (by decide +kernel), kiX9, kcX9_foldLevel, ⟨by decide +kernel, by decide +kernel⟩, by decide +kernel⟩, knX9_foldLevel, kvX9_foldLevel⟩
theorem lL_55 : MV RL 55 mX9_show 1 := ⟨⟨TG_in (List.mem_append_right _ (List.mem_of_getElem? (i := 839) (by decide +kernel))) (by decide +kernel), kiX9, kcX9_show, ⟨by decide +kernel, by decide +kernel⟩, by decide +kernel⟩, knX9_show, kvX9_show⟩
theorem lX9_158 : MV RX9 158 mX9_isNode 1 := ⟨⟨TG_in (List.mem_append_right _ (List.mem_of_getElem? (i := 843) (by decide +kernel))) (by decide +kernel), kiX9, kcX9_isNode, ⟨by decide +kernel, by decide +kernel⟩, by decide +kernel⟩, knX9_isNode, kvX9_isNode⟩
theorem lX9_161 : MV RX9 161 mX9_firstPlace 1 := ⟨⟨TG_in (List.mem_append_right _ (List.mem_of_getElem? (i := 847) (by decide +kernel))) (by decide +kernel), kiX9, kcX9_firstPlace, ⟨by decide +kernel, by decide +kernel⟩, by decide +kernel⟩, knX9_firstPlace, kvX9_firstPlace⟩
theorem lX9_164 : MV RX9 164 mX9_rowOf 1 := ⟨⟨TG_in (List.mem_append_right _ (List.mem_of_getElem? (i := 851) (by decide +kernel))) (by decide +kernel), kiX9, kcX9_rowOf, ⟨by decide +kernel, by decide +kernel⟩, by decide +kernel⟩, knX9_rowOf, kvX9_rowOf⟩
theorem lL_60 : MV RL 60 mX9_type 1 := ⟨⟨TG_in (List.mem_append_right _ (List.mem_of_getElem? (i := 855) (by decide +kernel))) (by decide +kernel), kiX9, kcX9_type, ⟨by decide +kernel, by decide +kernel⟩, by decide +kernel⟩, knX9_type, kvX9_type⟩
theorem lL_65 : MV RL 65 mX9_clearText 0 := ⟨⟨TG_in (List.mem_append_right _ (List.mem_of_getElem? (i := 859) (by decide +kernel))) (by decide +kernel), kiX9, kcX9_clearText, ⟨by decide +kernel, by decide +kernel⟩, by decide +kernel⟩, knX9_clearText, kvX9_clearText⟩
theorem lL_69 : MV RL 69 mX9_readOutline 0 := ⟨⟨TG_in (List.mem_append_right _ (List.mem_of_getElem? (i := 863) (by decide +kernel))) (by decide +kernel), kiX9, kcX9_readOutline, ⟨by decide +kernel, by decide +kernel⟩, by decide +kernel⟩, knX9_readOutline, kvX9_readOutline⟩
theorem lX9_176 : MV RX9 176 mX9_readsFault 0 := ⟨⟨TG_in (List.mem_append_right _ (List.mem_of_getElem? (i := 867) (by decide +kernel))) (by decide +kernel), kiX9, kcX9_readsFault, ⟨by decide +kernel, by decide +kernel⟩, by decide +kernel⟩, knX9_readsFault, kvX9_readsFault⟩
theorem lX9_170 : MV RX9 170 mX9_isOpen 2 := ⟨⟨TG_in (List.mem_append_right _ (List.mem_of_getElem? (i := 871) (by decide +kernel))) (by decide +kernel), kiX9, kcX9_isOpen, ⟨by decide +kernel, by decide +kernel⟩, by decide +kernel⟩, knX9_isOpen, kvX9_isOpen⟩
theorem lX9_173 : MV RX9 173 mX9_stands 2 := ⟨⟨TG_in (List.mem_append_right _ (List.mem_of_getElem? (i := 875) (by decide +kernel))) (by decide +kernel), kiX9, kcX9_stands, ⟨by decide +kernel, by decide +kernel⟩, by decide +kernel⟩, knX9_stands, kvX9_stands⟩
theorem lL_73 : MV RL 73 mX9_undo 0 := ⟨⟨TG_in (List.mem_append_right _ (List.mem_of_getElem? (i := 879) (by decide +kernel))) (by decide +kernel), kiX9, kcX9_undo, ⟨by decide +kernel, by decide +kernel⟩, by decide +kernel⟩, knX9_undo, kvX9_undo⟩
theorem lL_77 : MV RL 77 mX9_keep 0 := ⟨⟨TG_in (List.mem_append_right _ (List.mem_of_getElem? (i := 883) (by decide +kernel))) (by decide +kernel), kiX9, kcX9_keep, ⟨by decide +kernel, by decide +kernel⟩, by decide +kernel⟩, knX9_keep, kvX9_keep⟩
theorem lL_81 : MV RL 81 mX9_restore 0 := ⟨⟨TG_in (List.mem_append_right _ (List.mem_of_getElem? (i := 887) (by decide +kernel))) (by decide +kernel), kiX9, kcX9_restore, ⟨by decide +kernel, by decide +kernel⟩, by decide +kernel⟩, knX9_restore, kvX9_restore⟩
theorem lL_85 : MV RL 85 mX9_row 2 := ⟨⟨TG_in (List.mem_append_right _ (List.mem_of_getElem? (i := 891) (by decide +kernel))) (by decide +kernel), kiX9, kcX9_row, ⟨by decide +kernel, by decide +kernel⟩, by decide +kernel⟩, knX9_row, kvX9_row⟩
theorem lX9_183 : MV RX9 183 mX9_rowsWithin 1 := ⟨⟨TG_in (List.mem_append_right _ (List.mem_of_getElem? (i := 895) (by decide +kernel))) (by decide +kernel), kiX9, kcX9_rowsWithin, ⟨by decide +kernel, by decide +kernel⟩, by decide +kernel⟩, knX9_rowsWithin, kvX9_rowsWithin⟩
theorem lL_89 : MV RL 89 mX9_number 2 := ⟨⟨TG_in (List.mem_append_right _ (List.mem_of_getElem? (i := 899) (by decide +kernel))) (by decide +kernel), kiX9, kcX9_number, ⟨by decide +kernel, by decide +kernel⟩, by decide +kernel⟩, knX9_number, kvX9_number⟩
theorem lL_93 : MV RL 93 mX9_charAt 2 := ⟨⟨TG_in (List.mem_append_right _ (List.mem_of_getElem? (i := 903) (by decide +kernel))) (by decide +kernel), kiX9, kcX9_charAt, ⟨by decide +kernel, by decide +kernel⟩, by decide +kernel⟩, knX9_charAt, kvX9_charAt⟩
theorem lL_97 : MV RL 97 mX9_node 2 := ⟨⟨TG_in (List.mem_append_right _ (List.mem_of_getElem? (i := 907) (by decide +kernel))) (by decide +kernel), kiX9, kcX9_node, ⟨by decide +kernel, by decide +kernel⟩, by decide +kernel⟩, knX9_node, kvX9_node⟩
theorem lX9_186 : MV RX9 186 mX9_parents 1 := ⟨⟨TG_in (List.mem_append_right _ (List.mem_of_getElem? (i := 911) (by decide +kernel))) (by decide +kernel), kiX9, kcX9_parents, ⟨by decide +kernel, by decide +kernel⟩, by decide +kernel⟩, knX9_parents, kvX9_parents⟩
theorem lX9_189 : MV RX9 189 mX9_seenPlaces 1 := ⟨⟨TG_in (List.mem_append_right _ (List.mem_of_getElem? (i := 915) (by decide +kernel))) (by decide +kernel), kiX9, kcX9_seenPlaces, ⟨by decide +kernel, by decide +kernel⟩, by decide +kernel⟩, knX9_seenPlaces, kvX9_seenPlaces⟩
theorem lX9_192 : MV RX9 192 mX9_firstRow 1 := ⟨⟨TG_in (List.mem_append_right _ (List.mem_of_getElem? (i := 919) (by decide +kernel))) (by decide +kernel), kiX9, kcX9_firstRow, ⟨by decide +kernel, by decide +kernel⟩, by decide +kernel⟩, knX9_firstRow, kvX9_firstRow⟩
theorem lL_101 : MV RL 101 mX9_nextMarked 2 := ⟨⟨TG_in (List.mem_append_right _ (List.mem_of_getElem? (i := 923) (by decide +kernel))) (by decide +kernel), kiX9, kcX9_nextMarked, ⟨by decide +kernel, by decide +kernel⟩, by decide +kernel⟩, knX9_nextMarked, kvX9_nextMarked⟩
theorem lL_105 : MV RL 105 mX9_find 1 := ⟨⟨TG_in (List.mem_append_right _ (List.mem_of_getElem? (i := 927) (by decide +kernel))) (by decide +kernel), kiX9, kcX9_find, ⟨by decide +kernel, by decide +kernel⟩, by decide +kernel⟩, knX9_find, kvX9_find⟩
theorem lL_109 : MV RL 109 mX9_count 1 := ⟨⟨TG_in (List.mem_append_right _ (List.mem_of_getElem? (i := 931) (by decide +kernel))) (by decide +kernel), kiX9, kcX9_count, ⟨by decide +kernel, by decide +kernel⟩, by decide +kernel⟩, knX9_count, kvX9_count⟩
theorem lX9_195 : MV RX9 195 mX9_nodes 1 := ⟨⟨TG_in (List.mem_append_right _ (List.mem_of_getElem? (i := 935) (by decide +kernel))) (by decide +kernel), kiX9, kcX9_nodes, ⟨by decide +kernel, by decide +kernel⟩, by decide +kernel⟩, knX9_nodes, kvX9_nodes⟩
theorem lX9_199 : MV RX9 199 mX9_foldedPlaces 0 := ⟨⟨TG_in (List.mem_append_right _ (List.mem_of_getElem? (i := 939) (by decide +kernel))) (by decide +kernel), kiX9, kcX9_foldedPlaces, ⟨by decide +kernel, by decide +kernel⟩, by decide +kernel⟩, knX9_foldedPlaces, kvX9_foldedPlaces⟩
theorem lX9_202 : MV RX9 202 mX9_greatestLevel 0 := ⟨⟨TG_in (List.mem_append_right _ (List.mem_of_getElem? (i := 943) (by decide +kernel))) (by decide +kernel), kiX9, kcX9_greatestLevel, ⟨by decide +kernel, by decide +kernel⟩, by decide +kernel⟩, knX9_greatestLevel, kvX9_greatestLevel⟩
theorem k_ao : Cond.arrayOver (.object "CloneOutline$State") ∈ NW := by decide +kernel
theorem pfX8_init : plainFor mX8_init.1 = true := by decide +kernel
theorem pfX7_init : plainFor mX7_init.1 = true := by decide +kernel
theorem pfX4_init : plainFor mX4_init.1 = true := by decide +kernel
theorem pfX5_init : plainFor mX5_init.1 = true := by decide +kernel
theorem pfX0_init : plainFor mX0_init.1 = true := by decide +kernel
theorem pfX6_init : plainFor mX6_init.1 = true := by decide +kernel
theorem pfX2_init : plainFor mX2_init.1 = true := by decide +kernel
theorem pfX1_init : plainFor mX1_init.1 = true := by decide +kernel
theorem pfX3_init : plainFor mX3_init.1 = true := by decide +kernel
theorem pfX8_add : plainFor mX8_add.1 = true := by decide +kernel
theorem pfX8_placeOrRoot : plainFor mX8_placeOrRoot.1 = true := by decide +kernel
theorem pfX5_placeOf : plainFor mX5_placeOf.1 = true := by decide +kernel
theorem pfX7_fitsNode : plainFor mX7_fitsNode.1 = true := by decide +kernel
theorem pfX6_copyFrom : plainFor mX6_copyFrom.1 = true := by decide +kernel
theorem pfX2_copyFrom : plainFor mX2_copyFrom.1 = true := by decide +kernel
theorem pfX1_copyFrom : plainFor mX1_copyFrom.1 = true := by decide +kernel
theorem pfX3_copyFrom : plainFor mX3_copyFrom.1 = true := by decide +kernel
theorem pfX2_makeNode : plainFor mX2_makeNode.1 = true := by decide +kernel
theorem pfX2_setText : plainFor mX2_setText.1 = true := by decide +kernel
theorem pfX2_isNumber : plainFor mX2_isNumber.1 = true := by decide +kernel
theorem pfX7_codeAt : plainFor mX7_codeAt.1 = true := by decide +kernel
theorem pfX3_nodeOf : plainFor mX3_nodeOf.1 = true := by decide +kernel
theorem pfX3_isThere : plainFor mX3_isThere.1 = true := by decide +kernel
theorem pfX8_attach : plainFor mX8_attach.1 = true := by decide +kernel
theorem pfX1_append : plainFor mX1_append.1 = true := by decide +kernel
theorem pfX6_placeAgain : plainFor mX6_placeAgain.1 = true := by decide +kernel
theorem pfX6_grow : plainFor mX6_grow.1 = true := by decide +kernel
theorem pfX3_childPlace : plainFor mX3_childPlace.1 = true := by decide +kernel
theorem pfX3_levelOf : plainFor mX3_levelOf.1 = true := by decide +kernel
theorem pfX3_foldOf : plainFor mX3_foldOf.1 = true := by decide +kernel
theorem pfX3_append : plainFor mX3_append.1 = true := by decide +kernel
theorem pfX8_accept : plainFor mX8_accept.1 = true := by decide +kernel
theorem pfX0_push : plainFor mX0_push.1 = true := by decide +kernel
theorem pfJ9_floorMod_7cf53 : plainFor mJ9_floorMod_7cf53.1 = true := by decide +kernel
theorem pfX5_refresh : plainFor mX5_refresh.1 = true := by decide +kernel
theorem pfX3_countOf : plainFor mX3_countOf.1 = true := by decide +kernel
theorem pfX8_cloneTo : plainFor mX8_cloneTo.1 = true := by decide +kernel
theorem pfX8_refusalOfParent : plainFor mX8_refusalOfParent.1 = true := by decide +kernel
theorem pfX3_nodesWithin : plainFor mX3_nodesWithin.1 = true := by decide +kernel
theorem pfX3_endOf : plainFor mX3_endOf.1 = true := by decide +kernel
theorem pfJ9_max_7cf53 : plainFor mJ9_max_7cf53.1 = true := by decide +kernel
theorem pfX1_indexOf : plainFor mX1_indexOf.1 = true := by decide +kernel
theorem pfX8_nodeOfRow : plainFor mX8_nodeOfRow.1 = true := by decide +kernel
theorem pfX8_move : plainFor mX8_move.1 = true := by decide +kernel
theorem pfX8_parentNodeOf : plainFor mX8_parentNodeOf.1 = true := by decide +kernel
theorem pfX3_parentOf : plainFor mX3_parentOf.1 = true := by decide +kernel
theorem pfX3_atLevel : plainFor mX3_atLevel.1 = true := by decide +kernel
theorem pfJ9_min_7cf53 : plainFor mJ9_min_7cf53.1 = true := by decide +kernel
theorem pfX1_drop : plainFor mX1_drop.1 = true := by decide +kernel
theorem pfX8_cut : plainFor mX8_cut.1 = true := by decide +kernel
theorem pfX3_nodeSet : plainFor mX3_nodeSet.1 = true := by decide +kernel
theorem pfX6_dropVanished : plainFor mX6_dropVanished.1 = true := by decide +kernel
theorem pfX1_keepParents : plainFor mX1_keepParents.1 = true := by decide +kernel
theorem pfJ13_bitCount_95d88 : plainFor mJ13_bitCount_95d88.1 = true := by decide +kernel
theorem pfX8_shift : plainFor mX8_shift.1 = true := by decide +kernel
theorem pfX1_position : plainFor mX1_position.1 = true := by decide +kernel
theorem pfX1_childCount : plainFor mX1_childCount.1 = true := by decide +kernel
theorem pfX1_shiftChild : plainFor mX1_shiftChild.1 = true := by decide +kernel
theorem pfJ9_abs_0f7a4 : plainFor mJ9_abs_0f7a4.1 = true := by decide +kernel
theorem pfX8_edit : plainFor mX8_edit.1 = true := by decide +kernel
theorem pfX2_hasText : plainFor mX2_hasText.1 = true := by decide +kernel
theorem pfX2_lengthOf : plainFor mX2_lengthOf.1 = true := by decide +kernel
theorem pfX2_codeAt : plainFor mX2_codeAt.1 = true := by decide +kernel
theorem pfX8_mark : plainFor mX8_mark.1 = true := by decide +kernel
theorem pfX8_isMark : plainFor mX8_isMark.1 = true := by decide +kernel
theorem pfX2_toggleMark : plainFor mX2_toggleMark.1 = true := by decide +kernel
theorem pfX2_marksOf : plainFor mX2_marksOf.1 = true := by decide +kernel
theorem pfX8_fold : plainFor mX8_fold.1 = true := by decide +kernel
theorem pfX3_hasChildren : plainFor mX3_hasChildren.1 = true := by decide +kernel
theorem pfX3_setFold : plainFor mX3_setFold.1 = true := by decide +kernel
theorem pfX8_foldLevel : plainFor mX8_foldLevel.1 = true := by decide +kernel
theorem pfX3_foldAtLevel : plainFor mX3_foldAtLevel.1 = true := by decide +kernel
theorem pfX8_show : plainFor mX8_show.1 = true := by decide +kernel
theorem pfX3_firstOf : plainFor mX3_firstOf.1 = true := by decide +kernel
theorem pfX3_unfoldAround : plainFor mX3_unfoldAround.1 = true := by decide +kernel
theorem pfX5_rowOf : plainFor mX5_rowOf.1 = true := by decide +kernel
theorem pfX8_type : plainFor mX8_type.1 = true := by decide +kernel
theorem pfX7_append : plainFor mX7_append.1 = true := by decide +kernel
theorem pfX8_clearText : plainFor mX8_clearText.1 = true := by decide +kernel
theorem pfX8_readOutline : plainFor mX8_readOutline.1 = true := by decide +kernel
theorem pfX6_clearNodes : plainFor mX6_clearNodes.1 = true := by decide +kernel
theorem pfX4_read : plainFor mX4_read.1 = true := by decide +kernel
theorem pfX4_begin : plainFor mX4_begin.1 = true := by decide +kernel
theorem pfX4_takeLetter : plainFor mX4_takeLetter.1 = true := by decide +kernel
theorem pfX2_setLetter : plainFor mX2_setLetter.1 = true := by decide +kernel
theorem pfX4_isOpen : plainFor mX4_isOpen.1 = true := by decide +kernel
theorem pfX4_takeSign : plainFor mX4_takeSign.1 = true := by decide +kernel
theorem pfX6_placeAnew : plainFor mX6_placeAnew.1 = true := by decide +kernel
theorem pfX8_undo : plainFor mX8_undo.1 = true := by decide +kernel
theorem pfX0_popInto : plainFor mX0_popInto.1 = true := by decide +kernel
theorem pfX8_keep : plainFor mX8_keep.1 = true := by decide +kernel
theorem pfX8_restore : plainFor mX8_restore.1 = true := by decide +kernel
theorem pfX8_row : plainFor mX8_row.1 = true := by decide +kernel
theorem pfX8_positionAt : plainFor mX8_positionAt.1 = true := by decide +kernel
theorem pfX8_parentRow : plainFor mX8_parentRow.1 = true := by decide +kernel
theorem pfX5_seenBetween : plainFor mX5_seenBetween.1 = true := by decide +kernel
theorem pfX8_number : plainFor mX8_number.1 = true := by decide +kernel
theorem pfX8_charAt : plainFor mX8_charAt.1 = true := by decide +kernel
theorem pfX8_node : plainFor mX8_node.1 = true := by decide +kernel
theorem pfX1_parentCount : plainFor mX1_parentCount.1 = true := by decide +kernel
theorem pfX5_seenOf : plainFor mX5_seenOf.1 = true := by decide +kernel
theorem pfX5_firstOf : plainFor mX5_firstOf.1 = true := by decide +kernel
theorem pfX8_nextMarked : plainFor mX8_nextMarked.1 = true := by decide +kernel
theorem pfX8_find : plainFor mX8_find.1 = true := by decide +kernel
theorem pfX8_count : plainFor mX8_count.1 = true := by decide +kernel
theorem pfX3_foldedCount : plainFor mX3_foldedCount.1 = true := by decide +kernel
theorem pfX1_sharedCount : plainFor mX1_sharedCount.1 = true := by decide +kernel
theorem pfX3_greatestLevel : plainFor mX3_greatestLevel.1 = true := by decide +kernel
theorem pfX9_init : plainFor mX9_init.1 = true := by decide +kernel
theorem pfX9_add : plainFor mX9_add.1 = true := by decide +kernel
theorem pfX9_nodeOf : plainFor mX9_nodeOf.1 = true := by decide +kernel
theorem pfX9_placeOf : plainFor mX9_placeOf.1 = true := by decide +kernel
theorem pfX9_isSeen : plainFor mX9_isSeen.1 = true := by decide +kernel
theorem pfX9_at : plainFor mX9_at.1 = true := by decide +kernel
theorem pfX9_in : plainFor mX9_in.1 = true := by decide +kernel
theorem pfX9_takeSpare : plainFor mX9_takeSpare.1 = true := by decide +kernel
theorem pfX9_make : plainFor mX9_make.1 = true := by decide +kernel
theorem pfX9_to : plainFor mX9_to.1 = true := by decide +kernel
theorem pfX9_writeText : plainFor mX9_writeText.1 = true := by decide +kernel
theorem pfX9_addKid : plainFor mX9_addKid.1 = true := by decide +kernel
theorem pfX9_of : plainFor mX9_of.1 = true := by decide +kernel
theorem pfX9_layPlaces : plainFor mX9_layPlaces.1 = true := by decide +kernel
theorem pfX9_kid : plainFor mX9_kid.1 = true := by decide +kernel
theorem pfX9_spareChild : plainFor mX9_spareChild.1 = true := by decide +kernel
theorem pfX9_spareAt : plainFor mX9_spareAt.1 = true := by decide +kernel
theorem pfX9_putBack : plainFor mX9_putBack.1 = true := by decide +kernel
theorem pfX9_record : plainFor mX9_record.1 = true := by decide +kernel
theorem pfX9_cloneTo : plainFor mX9_cloneTo.1 = true := by decide +kernel
theorem pfX9_mayStand : plainFor mX9_mayStand.1 = true := by decide +kernel
theorem pfX9_layWithin : plainFor mX9_layWithin.1 = true := by decide +kernel
theorem pfX9_position : plainFor mX9_position.1 = true := by decide +kernel
theorem pfX9_placesOf : plainFor mX9_placesOf.1 = true := by decide +kernel
theorem pfX9_move : plainFor mX9_move.1 = true := by decide +kernel
theorem pfX9_parent : plainFor mX9_parent.1 = true := by decide +kernel
theorem pfX9_around : plainFor mX9_around.1 = true := by decide +kernel
theorem pfX9_takeKid : plainFor mX9_takeKid.1 = true := by decide +kernel
theorem pfX9_cut : plainFor mX9_cut.1 = true := by decide +kernel
theorem pfX9_shift : plainFor mX9_shift.1 = true := by decide +kernel
theorem pfX9_edit : plainFor mX9_edit.1 = true := by decide +kernel
theorem pfX9_hasText : plainFor mX9_hasText.1 = true := by decide +kernel
theorem pfX9_mark : plainFor mX9_mark.1 = true := by decide +kernel
theorem pfX9_fold : plainFor mX9_fold.1 = true := by decide +kernel
theorem pfX9_hasKids : plainFor mX9_hasKids.1 = true := by decide +kernel
theorem pfX9_rows : plainFor mX9_rows.1 = true := by decide +kernel
theorem pfX9_foldLevel : plainFor mX9_foldLevel.1 = true := by decide +kernel
theorem pfX9_show : plainFor mX9_show.1 = true := by decide +kernel
theorem pfX9_isNode : plainFor mX9_isNode.1 = true := by decide +kernel
theorem pfX9_firstPlace : plainFor mX9_firstPlace.1 = true := by decide +kernel
theorem pfX9_rowOf : plainFor mX9_rowOf.1 = true := by decide +kernel
theorem pfX9_type : plainFor mX9_type.1 = true := by decide +kernel
theorem pfX9_clearText : plainFor mX9_clearText.1 = true := by decide +kernel
theorem pfX9_readOutline : plainFor mX9_readOutline.1 = true := by decide +kernel
theorem pfX9_readsFault : plainFor mX9_readsFault.1 = true := by decide +kernel
theorem pfX9_isOpen : plainFor mX9_isOpen.1 = true := by decide +kernel
theorem pfX9_stands : plainFor mX9_stands.1 = true := by decide +kernel
theorem pfX9_undo : plainFor mX9_undo.1 = true := by decide +kernel
theorem pfX9_keep : plainFor mX9_keep.1 = true := by decide +kernel
theorem pfX9_restore : plainFor mX9_restore.1 = true := by decide +kernel
theorem pfX9_row : plainFor mX9_row.1 = true := by decide +kernel
theorem pfX9_rowsWithin : plainFor mX9_rowsWithin.1 = true := by decide +kernel
theorem pfX9_number : plainFor mX9_number.1 = true := by decide +kernel
theorem pfX9_charAt : plainFor mX9_charAt.1 = true := by decide +kernel
theorem pfX9_node : plainFor mX9_node.1 = true := by decide +kernel
theorem pfX9_parents : plainFor mX9_parents.1 = true := by decide +kernel
theorem pfX9_seenPlaces : plainFor mX9_seenPlaces.1 = true := by decide +kernel
theorem pfX9_firstRow : plainFor mX9_firstRow.1 = true := by decide +kernel
theorem pfX9_nextMarked : plainFor mX9_nextMarked.1 = true := by decide +kernel
theorem pfX9_find : plainFor mX9_find.1 = true := by decide +kernel
theorem pfX9_count : plainFor mX9_count.1 = true := by decide +kernel
theorem pfX9_nodes : plainFor mX9_nodes.1 = true := by decide +kernel
theorem pfX9_foldedPlaces : plainFor mX9_foldedPlaces.1 = true := by decide +kernel
theorem pfX9_greatestLevel : plainFor mX9_greatestLevel.1 = true := by decide +kernel
theorem k_oi : Cond.instanceMethod objectInit ∈ TG := TG_in (List.mem_append_right _ (List.mem_of_getElem? (i := 20) (by decide +kernel))) (by decide +kernel)
theorem k_oc : Cond.code objectInit ⟨#[0xb1]⟩ 1 none ∈ TG := TG_in (List.mem_append_right _ (List.mem_of_getElem? (i := 21) (by decide +kernel))) (by decide +kernel)
theorem k_nat : Cond.native arraycopyName ∈ TG := TG_in (List.mem_append_right _ (List.mem_of_getElem? (i := 234) (by decide +kernel))) (by decide +kernel)
theorem k_sta : Cond.static arraycopyName ∈ TG := TG_in (List.mem_append_right _ (List.mem_of_getElem? (i := 233) (by decide +kernel))) (by decide +kernel)
theorem k_sys : Cond.initialized "java/lang/System" ∈ TG := TG_in (List.mem_append_right _ (List.mem_of_getElem? (i := 11) (by decide +kernel))) (by decide +kernel)
theorem k_aI : Cond.arrayClass .int ∈ TG := TG_in (List.mem_append_right _ (List.mem_of_getElem? (i := 38) (by decide +kernel))) (by decide +kernel)
theorem k_aZ : Cond.arrayClass .boolean ∈ TG := TG_in (List.mem_append_right _ (List.mem_of_getElem? (i := 694) (by decide +kernel))) (by decide +kernel)
theorem k_aC : Cond.arrayClass .char ∈ TG := TG_in (List.mem_append_right _ (List.mem_of_getElem? (i := 695) (by decide +kernel))) (by decide +kernel)
theorem clX6_84 : Cond.constantLong RX6 84 (-1) ∈ TG := TG_in (List.mem_append_right _ (List.mem_of_getElem? (i := 390) (by decide +kernel))) (by decide +kernel)
theorem clJ13_314 : Cond.constantLong RJ13 314 (6148914691236517205) ∈ TG := TG_in (List.mem_append_right _ (List.mem_of_getElem? (i := 394) (by decide +kernel))) (by decide +kernel)
theorem clJ13_316 : Cond.constantLong RJ13 316 (3689348814741910323) ∈ TG := TG_in (List.mem_append_right _ (List.mem_of_getElem? (i := 395) (by decide +kernel))) (by decide +kernel)
theorem clJ13_318 : Cond.constantLong RJ13 318 (1085102592571150095) ∈ TG := TG_in (List.mem_append_right _ (List.mem_of_getElem? (i := 396) (by decide +kernel))) (by decide +kernel)
theorem nL_7 : NA RL 7 8 [.null, .null, .null, .null, .null, .int 0, .null, .null] := ⟨RX8, TX8, 8, tyX8, rfl, rfl, TG_in (List.mem_append_right _ (List.mem_of_getElem? (i := 14) (by decide +kernel))) (by decide +kernel), TG_in (List.mem_append_right _ (List.mem_of_getElem? (i := 15) (by decide +kernel))) (by decide +kernel), kiX8, wX8_in, tyX8_ok, fun j hj => by have : j < 8 := hj; (rcases (show j = 0 ∨ j = 1 ∨ j = 2 ∨ j = 3 ∨ j = 4 ∨ j = 5 ∨ j = 6 ∨ j = 7 by omega) with rfl | rfl | rfl | rfl | rfl | rfl | rfl | rfl <;> rfl)⟩
theorem nX8_7 : NA RX8 7 7 [.null, .int 0] := ⟨RX7, TX7, 2, tyX7, rfl, rfl, TG_in (List.mem_append_right _ (List.mem_of_getElem? (i := 22) (by decide +kernel))) (by decide +kernel), TG_in (List.mem_append_right _ (List.mem_of_getElem? (i := 23) (by decide +kernel))) (by decide +kernel), kiX7, wX7_in, tyX7_ok, fun j hj => by have : j < 2 := hj; (rcases (show j = 0 ∨ j = 1 by omega) with rfl | rfl <;> rfl)⟩
theorem nX8_16 : NA RX8 16 4 [.null, .null, .int 0, .int 0, .int 0] := ⟨RX4, TX4, 5, tyX4, rfl, rfl, TG_in (List.mem_append_right _ (List.mem_of_getElem? (i := 39) (by decide +kernel))) (by decide +kernel), TG_in (List.mem_append_right _ (List.mem_of_getElem? (i := 40) (by decide +kernel))) (by decide +kernel), kiX4, wX4_in, tyX4_ok, fun j hj => by have : j < 5 := hj; (rcases (show j = 0 ∨ j = 1 ∨ j = 2 ∨ j = 3 ∨ j = 4 by omega) with rfl | rfl | rfl | rfl | rfl <;> rfl)⟩
theorem nX8_23 : NA RX8 23 5 [.null, .null, .int 0] := ⟨RX5, TX5, 3, tyX5, rfl, rfl, TG_in (List.mem_append_right _ (List.mem_of_getElem? (i := 61) (by decide +kernel))) (by decide +kernel), TG_in (List.mem_append_right _ (List.mem_of_getElem? (i := 62) (by decide +kernel))) (by decide +kernel), kiX5, wX5_in, tyX5_ok, fun j hj => by have : j < 3 := hj; (rcases (show j = 0 ∨ j = 1 ∨ j = 2 by omega) with rfl | rfl | rfl <;> rfl)⟩
theorem nX8_30 : NA RX8 30 0 [.null, .int 0, .int 0] := ⟨RX0, TX0, 3, tyX0, rfl, rfl, TG_in (List.mem_append_right _ (List.mem_of_getElem? (i := 78) (by decide +kernel))) (by decide +kernel), TG_in (List.mem_append_right _ (List.mem_of_getElem? (i := 79) (by decide +kernel))) (by decide +kernel), kiX0, wX0_in, tyX0_ok, fun j hj => by have : j < 3 := hj; (rcases (show j = 0 ∨ j = 1 ∨ j = 2 by omega) with rfl | rfl | rfl <;> rfl)⟩
theorem clkX0_9 : Cond.classLink RX0 9 "CloneOutline$State" ∈ TG := TG_in (List.mem_append_right _ (List.mem_of_getElem? (i := 84) (by decide +kernel))) (by decide +kernel)
theorem nX0_9 : NA RX0 9 6 [.null, .null, .null] := ⟨RX6, TX6, 3, tyX6, rfl, rfl, TG_in (List.mem_append_right _ (List.mem_of_getElem? (i := 84) (by decide +kernel))) (by decide +kernel), TG_in (List.mem_append_right _ (List.mem_of_getElem? (i := 86) (by decide +kernel))) (by decide +kernel), kiX6, wX6_in, tyX6_ok, fun j hj => by have : j < 3 := hj; (rcases (show j = 0 ∨ j = 1 ∨ j = 2 by omega) with rfl | rfl | rfl <;> rfl)⟩
theorem nX6_9 : NA RX6 9 2 [.null, .null, .null, .int 0] := ⟨RX2, TX2, 4, tyX2, rfl, rfl, TG_in (List.mem_append_right _ (List.mem_of_getElem? (i := 91) (by decide +kernel))) (by decide +kernel), TG_in (List.mem_append_right _ (List.mem_of_getElem? (i := 92) (by decide +kernel))) (by decide +kernel), kiX2, wX2_in, tyX2_ok, fun j hj => by have : j < 4 := hj; (rcases (show j = 0 ∨ j = 1 ∨ j = 2 ∨ j = 3 by omega) with rfl | rfl | rfl | rfl <;> rfl)⟩
theorem nX6_18 : NA RX6 18 1 [.null, .null, .int 0] := ⟨RX1, TX1, 3, tyX1, rfl, rfl, TG_in (List.mem_append_right _ (List.mem_of_getElem? (i := 112) (by decide +kernel))) (by decide +kernel), TG_in (List.mem_append_right _ (List.mem_of_getElem? (i := 113) (by decide +kernel))) (by decide +kernel), kiX1, wX1_in, tyX1_ok, fun j hj => by have : j < 3 := hj; (rcases (show j = 0 ∨ j = 1 ∨ j = 2 by omega) with rfl | rfl | rfl <;> rfl)⟩
theorem nX6_25 : NA RX6 25 3 [.null, .null, .null, .int 0] := ⟨RX3, TX3, 4, tyX3, rfl, rfl, TG_in (List.mem_append_right _ (List.mem_of_getElem? (i := 131) (by decide +kernel))) (by decide +kernel), TG_in (List.mem_append_right _ (List.mem_of_getElem? (i := 132) (by decide +kernel))) (by decide +kernel), kiX3, wX3_in, tyX3_ok, fun j hj => by have : j < 4 := hj; (rcases (show j = 0 ∨ j = 1 ∨ j = 2 ∨ j = 3 by omega) with rfl | rfl | rfl | rfl <;> rfl)⟩
theorem nX8_37 : NA RX8 37 6 [.null, .null, .null] := ⟨RX6, TX6, 3, tyX6, rfl, rfl, TG_in (List.mem_append_right _ (List.mem_of_getElem? (i := 181) (by decide +kernel))) (by decide +kernel), TG_in (List.mem_append_right _ (List.mem_of_getElem? (i := 86) (by decide +kernel))) (by decide +kernel), kiX6, wX6_in, tyX6_ok, fun j hj => by have : j < 3 := hj; (rcases (show j = 0 ∨ j = 1 ∨ j = 2 by omega) with rfl | rfl | rfl <;> rfl)⟩
theorem nL_10 : NA RL 10 9 [.null, .null, .int 0, .null, .int 0, .null, .null, .null, .null, .null, .null, .null, .int 0, .null, .null, .int 0, .null, .null, .null, .null] := ⟨RX9, TX9, 20, tyX9, rfl, rfl, TG_in (List.mem_append_right _ (List.mem_of_getElem? (i := 627) (by decide +kernel))) (by decide +kernel), TG_in (List.mem_append_right _ (List.mem_of_getElem? (i := 628) (by decide +kernel))) (by decide +kernel), kiX9, wX9_in, tyX9_ok, fun j hj => by have : j < 20 := hj; (rcases (show j = 0 ∨ j = 1 ∨ j = 2 ∨ j = 3 ∨ j = 4 ∨ j = 5 ∨ j = 6 ∨ j = 7 ∨ j = 8 ∨ j = 9 ∨ j = 10 ∨ j = 11 ∨ j = 12 ∨ j = 13 ∨ j = 14 ∨ j = 15 ∨ j = 16 ∨ j = 17 ∨ j = 18 ∨ j = 19 by omega) with rfl | rfl | rfl | rfl | rfl | rfl | rfl | rfl | rfl | rfl | rfl | rfl | rfl | rfl | rfl | rfl | rfl | rfl | rfl | rfl <;> rfl)⟩
