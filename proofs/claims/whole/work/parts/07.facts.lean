/-! the methods, and what the tables say of fields and calls, by their places -/
abbrev mX0_init : Md := (yX0_init, cX0_init, 1, none)
abbrev mX0_append : Md := (yX0_append, cX0_append, 2, none)
abbrev mX0_codeAt : Md := (yX0_codeAt, cX0_codeAt, 2, some .int)
abbrev mX0_figureAt : Md := (yX0_figureAt, cX0_figureAt, 2, some .int)
abbrev mX0_firstFault : Md := (yX0_firstFault, cX0_firstFault, 2, some .int)
abbrev mX0_fits : Md := (yX0_fits, cX0_fits, 3, some .boolean)
abbrev mX0_isField : Md := (yX0_isField, cX0_isField, 1, some .boolean)
abbrev mX1_init : Md := (yX1_init, cX1_init, 2, none)
abbrev mX1_moveAt : Md := (yX1_moveAt, cX1_moveAt, 2, some .int)
abbrev mX2_init : Md := (yX2_init, cX2_init, 1, none)
abbrev mX2_forget : Md := (yX2_forget, cX2_forget, 1, none)
abbrev mX2_planWithBest : Md := (yX2_planWithBest, cX2_planWithBest, 4, some (.object "AimDesk$Plan"))
abbrev mX2_planWithChange : Md := (yX2_planWithChange, cX2_planWithChange, 4, some (.object "AimDesk$Plan"))
abbrev mX2_findBest : Md := (yX2_findBest, cX2_findBest, 3, none)
abbrev mX2_openFrom : Md := (yX2_openFrom, cX2_openFrom, 12, none)
abbrev mX2_open : Md := (yX2_open, cX2_open, 4, none)
abbrev mX2_wayFrom : Md := (yX2_wayFrom, cX2_wayFrom, 2, some .int)
abbrev mX2_setWay : Md := (yX2_setWay, cX2_setWay, 3, none)
abbrev mX2_findChange : Md := (yX2_findChange, cX2_findChange, 6, none)
abbrev mX2_widen : Md := (yX2_widen, cX2_widen, 5, some .boolean)
abbrev mX2_markBeside : Md := (yX2_markBeside, cX2_markBeside, 9, some .boolean)
abbrev mX2_noteMoves : Md := (yX2_noteMoves, cX2_noteMoves, 9, none)
abbrev mX2_leastMove : Md := (yX2_leastMove, cX2_leastMove, 8, some .int)
abbrev mX3_init : Md := (yX3_init, cX3_init, 1, none)
abbrev mX3_isRead : Md := (yX3_isRead, cX3_isRead, 1, some .boolean)
abbrev mX3_hasMirror : Md := (yX3_hasMirror, cX3_hasMirror, 2, some .boolean)
abbrev mX3_hasPatch : Md := (yX3_hasPatch, cX3_hasPatch, 2, some .boolean)
abbrev mX3_isShaded : Md := (yX3_isShaded, cX3_isShaded, 2, some .boolean)
abbrev mX3_isStuck : Md := (yX3_isStuck, cX3_isStuck, 2, some .boolean)
abbrev mX3_read : Md := (yX3_read, cX3_read, 4, none)
abbrev mX3_lightAt : Md := (yX3_lightAt, cX3_lightAt, 5, some .int)
abbrev mX3_light : Md := (yX3_light, cX3_light, 3, some .int)
abbrev mX3_measureSlack : Md := (yX3_measureSlack, cX3_measureSlack, 2, none)
abbrev mX3_isSafe : Md := (yX3_isSafe, cX3_isSafe, 2, some .boolean)
abbrev mX3_heats : Md := (yX3_heats, cX3_heats, 1, some .int)
abbrev mX3_heatsWithout : Md := (yX3_heatsWithout, cX3_heatsWithout, 4, some .int)
abbrev mX3_aimingAt : Md := (yX3_aimingAt, cX3_aimingAt, 4, some .int)
abbrev mX3_bound : Md := (yX3_bound, cX3_bound, 4, some .int)
abbrev mX3_mostLight : Md := (yX3_mostLight, cX3_mostLight, 4, some .int)
abbrev mX3_placeNow : Md := (yX3_placeNow, cX3_placeNow, 3, some .int)
abbrev mX3_bestTrade : Md := (yX3_bestTrade, cX3_bestTrade, 6, some .int)
abbrev mX3_heatsByTrade : Md := (yX3_heatsByTrade, cX3_heatsByTrade, 4, some .int)
abbrev mX3_swapAims : Md := (yX3_swapAims, cX3_swapAims, 4, none)
abbrev mX3_bestRelief : Md := (yX3_bestRelief, cX3_bestRelief, 7, some .int)
abbrev mX4_init : Md := (yX4_init, cX4_init, 1, none)
abbrev mX4_letter : Md := (yX4_letter, cX4_letter, 2, some .int)
abbrev mX4_blank : Md := (yX4_blank, cX4_blank, 2, some .int)
abbrev mX4_fault : Md := (yX4_fault, cX4_fault, 1, some .int)
abbrev mX4_field : Md := (yX4_field, cX4_field, 1, some .int)
abbrev mX4_ceiling : Md := (yX4_ceiling, cX4_ceiling, 4, some .int)
abbrev mX4_shade : Md := (yX4_shade, cX4_shade, 3, some .int)
abbrev mX4_stuck : Md := (yX4_stuck, cX4_stuck, 5, some .int)
abbrev mX4_aim : Md := (yX4_aim, cX4_aim, 4, some .int)
abbrev mX4_mirror : Md := (yX4_mirror, cX4_mirror, 3, some .int)
abbrev mX4_patch : Md := (yX4_patch, cX4_patch, 3, some .int)
abbrev mX4_best : Md := (yX4_best, cX4_best, 4, some .int)
abbrev mX4_change : Md := (yX4_change, cX4_change, 4, some .int)
abbrev mX4_go : Md := (yX4_go, cX4_go, 4, some .int)
abbrev mX4_trade : Md := (yX4_trade, cX4_trade, 5, some .int)
abbrev mX4_relief : Md := (yX4_relief, cX4_relief, 1, some .int)
abbrev mX4_count : Md := (yX4_count, cX4_count, 2, some .int)
abbrev mX4_digest : Md := (yX4_digest, cX4_digest, 6, some .long)
abbrev mX4_digestOfParts : Md := (yX4_digestOfParts, cX4_digestOfParts, 7, some .long)
abbrev mX4_bit : Md := (yX4_bit, cX4_bit, 2, some .int)
abbrev mX4_heatOf : Md := (yX4_heatOf, cX4_heatOf, 2, some .int)
abbrev mX4_sum : Md := (yX4_sum, cX4_sum, 1, some .int)
abbrev mX4_aimIn : Md := (yX4_aimIn, cX4_aimIn, 4, some .int)
abbrev mX5_init : Md := (yX5_init, cX5_init, 1, none)
abbrev mX5_within : Md := (yX5_within, cX5_within, 3, some .boolean)
abbrev mX5_has : Md := (yX5_has, cX5_has, 2, some .boolean)
abbrev mX5_letter : Md := (yX5_letter, cX5_letter, 2, some .int)
abbrev mX5_blank : Md := (yX5_blank, cX5_blank, 2, some .int)
abbrev mX5_isRight : Md := (yX5_isRight, cX5_isRight, 3, some .boolean)
abbrev mX5_rightLetters : Md := (yX5_rightLetters, cX5_rightLetters, 2, some .int)
abbrev mX5_fault : Md := (yX5_fault, cX5_fault, 1, some .int)
abbrev mX5_field : Md := (yX5_field, cX5_field, 2, some .int)
abbrev mX5_isMirror : Md := (yX5_isMirror, cX5_isMirror, 2, some .boolean)
abbrev mX5_isPatch : Md := (yX5_isPatch, cX5_isPatch, 2, some .boolean)
abbrev mX5_gives : Md := (yX5_gives, cX5_gives, 5, some .int)
abbrev mX5_givesAll : Md := (yX5_givesAll, cX5_givesAll, 5, some .int)
abbrev mX5_asTheyAre : Md := (yX5_asTheyAre, cX5_asTheyAre, 2, none)
abbrev mX5_heatAt : Md := (yX5_heatAt, cX5_heatAt, 5, some .int)
abbrev mX5_isGood : Md := (yX5_isGood, cX5_isGood, 4, some .boolean)
abbrev mX5_caught : Md := (yX5_caught, cX5_caught, 3, some .int)
abbrev mX5_ceiling : Md := (yX5_ceiling, cX5_ceiling, 4, some .int)
abbrev mX5_shade : Md := (yX5_shade, cX5_shade, 3, some .int)
abbrev mX5_stuck : Md := (yX5_stuck, cX5_stuck, 4, some .int)
abbrev mX5_aim : Md := (yX5_aim, cX5_aim, 4, some .int)
abbrev mX5_ofMirror : Md := (yX5_ofMirror, cX5_ofMirror, 3, some .int)
abbrev mX5_mirror : Md := (yX5_mirror, cX5_mirror, 3, some .int)
abbrev mX5_aimedAt : Md := (yX5_aimedAt, cX5_aimedAt, 4, some .int)
abbrev mX5_ofPatch : Md := (yX5_ofPatch, cX5_ofPatch, 3, some .int)
abbrev mX5_patch : Md := (yX5_patch, cX5_patch, 3, some .int)
abbrev mX5_unitOf : Md := (yX5_unitOf, cX5_unitOf, 4, some .int)
abbrev mX5_codeNow : Md := (yX5_codeNow, cX5_codeNow, 3, some .int)
abbrev mX5_layCode : Md := (yX5_layCode, cX5_layCode, 4, none)
abbrev mX5_areThere : Md := (yX5_areThere, cX5_areThere, 3, some .boolean)
abbrev mX5_layBest : Md := (yX5_layBest, cX5_layBest, 4, none)
abbrev mX5_boundNow : Md := (yX5_boundNow, cX5_boundNow, 6, some .int)
abbrev mX5_bestNow : Md := (yX5_bestNow, cX5_bestNow, 2, some .int)
abbrev mX5_best : Md := (yX5_best, cX5_best, 3, some .int)
abbrev mX5_figure : Md := (yX5_figure, cX5_figure, 2, some .int)
abbrev mX5_layFar : Md := (yX5_layFar, cX5_layFar, 9, none)
abbrev mX5_moveFrom : Md := (yX5_moveFrom, cX5_moveFrom, 7, some .int)
abbrev mX5_moved : Md := (yX5_moved, cX5_moved, 4, some .int)
abbrev mX5_layChange : Md := (yX5_layChange, cX5_layChange, 4, none)
abbrev mX5_changeNow : Md := (yX5_changeNow, cX5_changeNow, 2, some .int)
abbrev mX5_change : Md := (yX5_change, cX5_change, 3, some .int)
abbrev mX5_go : Md := (yX5_go, cX5_go, 2, some .int)
abbrev mX5_layTrade : Md := (yX5_layTrade, cX5_layTrade, 7, none)
abbrev mX5_tradeNow : Md := (yX5_tradeNow, cX5_tradeNow, 2, some .int)
abbrev mX5_trade : Md := (yX5_trade, cX5_trade, 2, some .int)
abbrev mX5_ones : Md := (yX5_ones, cX5_ones, 3, some .int)
abbrev mX5_reliefNow : Md := (yX5_reliefNow, cX5_reliefNow, 6, some .int)
abbrev mX5_relief : Md := (yX5_relief, cX5_relief, 1, some .int)
abbrev mX5_howMany : Md := (yX5_howMany, cX5_howMany, 2, some .int)
abbrev mX5_count : Md := (yX5_count, cX5_count, 2, some .int)
abbrev mX5_mix : Md := (yX5_mix, cX5_mix, 3, none)
abbrev mX5_mixPlans : Md := (yX5_mixPlans, cX5_mixPlans, 3, none)
abbrev mX5_mixField : Md := (yX5_mixField, cX5_mixField, 2, none)
abbrev mX5_digest : Md := (yX5_digest, cX5_digest, 3, some .long)
abbrev mJ6_bitCount_0f7a4 : Md := (yJ6_bitCount_0f7a4, cJ6_bitCount_0f7a4, 1, some .int)
abbrev mJ9_max_7cf53 : Md := (yJ9_max_7cf53, cJ9_max_7cf53, 2, some .int)
abbrev mJ9_min_7cf53 : Md := (yJ9_min_7cf53, cJ9_min_7cf53, 2, some .int)
abbrev mJ7_fill_53178 : Md := (yJ7_fill_53178, cJ7_fill_53178, 4, none)
set_option maxRecDepth 20000 in
theorem uw0 : (u_ws RX0 TX0 2).all (fun w => decide (w ∈ lw_tbl) && okw w) = true := by decide +kernel
theorem cf0 : CF 0 RX0 TX0 2 := ⟨rfl, fun w hw => by have := List.all_eq_true.mp uw0 w hw; simp only [Bool.and_eq_true, decide_eq_true_eq] at this; exact this, ⟨tyX0, tyX0_ok⟩, nmX0⟩
set_option maxRecDepth 20000 in
theorem uw1 : (u_ws RX1 TX1 7).all (fun w => decide (w ∈ lw_tbl) && okw w) = true := by decide +kernel
theorem cf1 : CF 1 RX1 TX1 7 := ⟨rfl, fun w hw => by have := List.all_eq_true.mp uw1 w hw; simp only [Bool.and_eq_true, decide_eq_true_eq] at this; exact this, ⟨tyX1, tyX1_ok⟩, nmX1⟩
set_option maxRecDepth 20000 in
theorem uw2 : (u_ws RX2 TX2 3).all (fun w => decide (w ∈ lw_tbl) && okw w) = true := by decide +kernel
theorem cf2 : CF 2 RX2 TX2 3 := ⟨rfl, fun w hw => by have := List.all_eq_true.mp uw2 w hw; simp only [Bool.and_eq_true, decide_eq_true_eq] at this; exact this, ⟨tyX2, tyX2_ok⟩, nmX2⟩
set_option maxRecDepth 20000 in
theorem uw3 : (u_ws RX3 TX3 11).all (fun w => decide (w ∈ lw_tbl) && okw w) = true := by decide +kernel
theorem cf3 : CF 3 RX3 TX3 11 := ⟨rfl, fun w hw => by have := List.all_eq_true.mp uw3 w hw; simp only [Bool.and_eq_true, decide_eq_true_eq] at this; exact this, ⟨tyX3, tyX3_ok⟩, nmX3⟩
set_option maxRecDepth 20000 in
theorem uw4 : (u_ws RX4 TX4 5).all (fun w => decide (w ∈ lw_tbl) && okw w) = true := by decide +kernel
theorem cf4 : CF 4 RX4 TX4 5 := ⟨rfl, fun w hw => by have := List.all_eq_true.mp uw4 w hw; simp only [Bool.and_eq_true, decide_eq_true_eq] at this; exact this, ⟨tyX4, tyX4_ok⟩, nmX4⟩
set_option maxRecDepth 20000 in
theorem uw5 : (u_ws RX5 TX5 24).all (fun w => decide (w ∈ lw_tbl) && okw w) = true := by decide +kernel
theorem cf5 : CF 5 RX5 TX5 24 := ⟨rfl, fun w hw => by have := List.all_eq_true.mp uw5 w hw; simp only [Bool.and_eq_true, decide_eq_true_eq] at this; exact this, ⟨tyX5, tyX5_ok⟩, nmX5⟩
theorem fX0_9 : FL RX0 9 0 0 (.array .int) true := ⟨RX0, TX0, 2, cf0, by decide, by decide +kernel, rfl, Or.inl (List.mem_of_getElem? (i := 95) (by decide +kernel))⟩
theorem fX0_15 : FL RX0 15 0 1 .int false := ⟨RX0, TX0, 2, cf0, by decide, by decide +kernel, rfl, Or.inl (List.mem_of_getElem? (i := 96) (by decide +kernel))⟩
theorem fX4_30 : FL RX4 30 0 1 .int false := ⟨RX0, TX0, 2, cf0, by decide, by decide +kernel, rfl, Or.inr ⟨"AimDesk", List.mem_of_getElem? (i := 97) (by decide +kernel)⟩⟩
theorem fX3_55 : FL RX3 55 0 1 .int false := ⟨RX0, TX0, 2, cf0, by decide, by decide +kernel, rfl, Or.inr ⟨"AimDesk", List.mem_of_getElem? (i := 98) (by decide +kernel)⟩⟩
theorem fX3_27 : FL RX3 27 3 0 .int false := ⟨RX3, TX3, 11, cf3, by decide, by decide +kernel, rfl, Or.inl (List.mem_of_getElem? (i := 111) (by decide +kernel))⟩
theorem fX4_56 : FL RX4 56 3 0 .int false := ⟨RX3, TX3, 11, cf3, by decide, by decide +kernel, rfl, Or.inr ⟨"AimDesk", List.mem_of_getElem? (i := 112) (by decide +kernel)⟩⟩
theorem fX2_126 : FL RX2 126 3 0 .int false := ⟨RX3, TX3, 11, cf3, by decide, by decide +kernel, rfl, Or.inr ⟨"AimDesk", List.mem_of_getElem? (i := 113) (by decide +kernel)⟩⟩
theorem fX3_31 : FL RX3 31 3 1 .int false := ⟨RX3, TX3, 11, cf3, by decide, by decide +kernel, rfl, Or.inl (List.mem_of_getElem? (i := 114) (by decide +kernel))⟩
theorem fX2_74 : FL RX2 74 3 1 .int false := ⟨RX3, TX3, 11, cf3, by decide, by decide +kernel, rfl, Or.inr ⟨"AimDesk", List.mem_of_getElem? (i := 115) (by decide +kernel)⟩⟩
theorem fX4_162 : FL RX4 162 3 1 .int false := ⟨RX3, TX3, 11, cf3, by decide, by decide +kernel, rfl, Or.inr ⟨"AimDesk", List.mem_of_getElem? (i := 116) (by decide +kernel)⟩⟩
theorem fX3_58 : FL RX3 58 3 2 .int false := ⟨RX3, TX3, 11, cf3, by decide, by decide +kernel, rfl, Or.inl (List.mem_of_getElem? (i := 117) (by decide +kernel))⟩
theorem fX2_108 : FL RX2 108 3 2 .int false := ⟨RX3, TX3, 11, cf3, by decide, by decide +kernel, rfl, Or.inr ⟨"AimDesk", List.mem_of_getElem? (i := 118) (by decide +kernel)⟩⟩
theorem fX3_34 : FL RX3 34 3 3 .int false := ⟨RX3, TX3, 11, cf3, by decide, by decide +kernel, rfl, Or.inl (List.mem_of_getElem? (i := 119) (by decide +kernel))⟩
theorem fX4_73 : FL RX4 73 3 3 .int false := ⟨RX3, TX3, 11, cf3, by decide, by decide +kernel, rfl, Or.inr ⟨"AimDesk", List.mem_of_getElem? (i := 120) (by decide +kernel)⟩⟩
theorem fX3_41 : FL RX3 41 3 4 .int false := ⟨RX3, TX3, 11, cf3, by decide, by decide +kernel, rfl, Or.inl (List.mem_of_getElem? (i := 121) (by decide +kernel))⟩
theorem fX4_79 : FL RX4 79 3 4 .int false := ⟨RX3, TX3, 11, cf3, by decide, by decide +kernel, rfl, Or.inr ⟨"AimDesk", List.mem_of_getElem? (i := 122) (by decide +kernel)⟩⟩
theorem fX3_81 : FL RX3 81 3 5 .int false := ⟨RX3, TX3, 11, cf3, by decide, by decide +kernel, rfl, Or.inl (List.mem_of_getElem? (i := 123) (by decide +kernel))⟩
theorem fX3_9 : FL RX3 9 3 6 (.array .int) true := ⟨RX3, TX3, 11, cf3, by decide, by decide +kernel, rfl, Or.inl (List.mem_of_getElem? (i := 124) (by decide +kernel))⟩
theorem fX4_101 : FL RX4 101 3 6 (.array .int) true := ⟨RX3, TX3, 11, cf3, by decide, by decide +kernel, rfl, Or.inr ⟨"AimDesk", List.mem_of_getElem? (i := 125) (by decide +kernel)⟩⟩
theorem fX3_15 : FL RX3 15 3 7 (.array .int) true := ⟨RX3, TX3, 11, cf3, by decide, by decide +kernel, rfl, Or.inl (List.mem_of_getElem? (i := 126) (by decide +kernel))⟩
theorem fX4_104 : FL RX4 104 3 7 (.array .int) true := ⟨RX3, TX3, 11, cf3, by decide, by decide +kernel, rfl, Or.inr ⟨"AimDesk", List.mem_of_getElem? (i := 127) (by decide +kernel)⟩⟩
theorem fX3_18 : FL RX3 18 3 8 (.array .int) true := ⟨RX3, TX3, 11, cf3, by decide, by decide +kernel, rfl, Or.inl (List.mem_of_getElem? (i := 128) (by decide +kernel))⟩
theorem fX2_80 : FL RX2 80 3 8 (.array .int) true := ⟨RX3, TX3, 11, cf3, by decide, by decide +kernel, rfl, Or.inr ⟨"AimDesk", List.mem_of_getElem? (i := 129) (by decide +kernel)⟩⟩
theorem fX4_89 : FL RX4 89 3 8 (.array .int) true := ⟨RX3, TX3, 11, cf3, by decide, by decide +kernel, rfl, Or.inr ⟨"AimDesk", List.mem_of_getElem? (i := 130) (by decide +kernel)⟩⟩
theorem fX3_21 : FL RX3 21 3 9 (.array .int) true := ⟨RX3, TX3, 11, cf3, by decide, by decide +kernel, rfl, Or.inl (List.mem_of_getElem? (i := 131) (by decide +kernel))⟩
theorem fX3_24 : FL RX3 24 3 10 (.array .int) true := ⟨RX3, TX3, 11, cf3, by decide, by decide +kernel, rfl, Or.inl (List.mem_of_getElem? (i := 132) (by decide +kernel))⟩
theorem fX4_63 : FL RX4 63 3 10 (.array .int) true := ⟨RX3, TX3, 11, cf3, by decide, by decide +kernel, rfl, Or.inr ⟨"AimDesk", List.mem_of_getElem? (i := 133) (by decide +kernel)⟩⟩
theorem fX1_15 : FL RX1 15 1 0 .boolean true := ⟨RX1, TX1, 7, cf1, by decide, by decide +kernel, rfl, Or.inl (List.mem_of_getElem? (i := 169) (by decide +kernel))⟩
theorem fX2_87 : FL RX2 87 1 0 .boolean true := ⟨RX1, TX1, 7, cf1, by decide, by decide +kernel, rfl, Or.inr ⟨"AimDesk", List.mem_of_getElem? (i := 170) (by decide +kernel)⟩⟩
theorem fX1_9 : FL RX1 9 1 1 (.array .int) true := ⟨RX1, TX1, 7, cf1, by decide, by decide +kernel, rfl, Or.inl (List.mem_of_getElem? (i := 171) (by decide +kernel))⟩
theorem fX2_129 : FL RX2 129 1 1 (.array .int) true := ⟨RX1, TX1, 7, cf1, by decide, by decide +kernel, rfl, Or.inr ⟨"AimDesk", List.mem_of_getElem? (i := 172) (by decide +kernel)⟩⟩
theorem fX2_27 : FL RX2 27 1 2 .boolean false := ⟨RX1, TX1, 7, cf1, by decide, by decide +kernel, rfl, Or.inr ⟨"AimDesk", List.mem_of_getElem? (i := 173) (by decide +kernel)⟩⟩
theorem fX2_31 : FL RX2 31 1 3 .boolean false := ⟨RX1, TX1, 7, cf1, by decide, by decide +kernel, rfl, Or.inr ⟨"AimDesk", List.mem_of_getElem? (i := 174) (by decide +kernel)⟩⟩
theorem fX2_47 : FL RX2 47 1 4 .int false := ⟨RX1, TX1, 7, cf1, by decide, by decide +kernel, rfl, Or.inr ⟨"AimDesk", List.mem_of_getElem? (i := 175) (by decide +kernel)⟩⟩
theorem fX4_130 : FL RX4 130 1 4 .int false := ⟨RX1, TX1, 7, cf1, by decide, by decide +kernel, rfl, Or.inr ⟨"AimDesk", List.mem_of_getElem? (i := 176) (by decide +kernel)⟩⟩
theorem fX2_51 : FL RX2 51 1 5 .int false := ⟨RX1, TX1, 7, cf1, by decide, by decide +kernel, rfl, Or.inr ⟨"AimDesk", List.mem_of_getElem? (i := 177) (by decide +kernel)⟩⟩
theorem fX4_138 : FL RX4 138 1 5 .int false := ⟨RX1, TX1, 7, cf1, by decide, by decide +kernel, rfl, Or.inr ⟨"AimDesk", List.mem_of_getElem? (i := 178) (by decide +kernel)⟩⟩
theorem fX1_19 : FL RX1 19 1 6 .int false := ⟨RX1, TX1, 7, cf1, by decide, by decide +kernel, rfl, Or.inl (List.mem_of_getElem? (i := 179) (by decide +kernel))⟩
theorem fX2_97 : FL RX2 97 1 6 .int false := ⟨RX1, TX1, 7, cf1, by decide, by decide +kernel, rfl, Or.inr ⟨"AimDesk", List.mem_of_getElem? (i := 180) (by decide +kernel)⟩⟩
theorem fX4_147 : FL RX4 147 1 6 .int false := ⟨RX1, TX1, 7, cf1, by decide, by decide +kernel, rfl, Or.inr ⟨"AimDesk", List.mem_of_getElem? (i := 181) (by decide +kernel)⟩⟩
theorem fX2_14 : FL RX2 14 2 0 (.object "AimDesk$Plan") true := ⟨RX2, TX2, 3, cf2, by decide, by decide +kernel, rfl, Or.inl (List.mem_of_getElem? (i := 197) (by decide +kernel))⟩
theorem fX2_20 : FL RX2 20 2 1 (.object "AimDesk$Plan") true := ⟨RX2, TX2, 3, cf2, by decide, by decide +kernel, rfl, Or.inl (List.mem_of_getElem? (i := 198) (by decide +kernel))⟩
theorem fX2_23 : FL RX2 23 2 2 (.array .int) true := ⟨RX2, TX2, 3, cf2, by decide, by decide +kernel, rfl, Or.inl (List.mem_of_getElem? (i := 199) (by decide +kernel))⟩
theorem fX4_10 : FL RX4 10 4 0 (.object "AimDesk$Page") true := ⟨RX4, TX4, 5, cf4, by decide, by decide +kernel, rfl, Or.inl (List.mem_of_getElem? (i := 207) (by decide +kernel))⟩
theorem fX4_19 : FL RX4 19 4 1 (.object "AimDesk$Plant") true := ⟨RX4, TX4, 5, cf4, by decide, by decide +kernel, rfl, Or.inl (List.mem_of_getElem? (i := 208) (by decide +kernel))⟩
theorem fX4_26 : FL RX4 26 4 2 (.object "AimDesk$Planner") true := ⟨RX4, TX4, 5, cf4, by decide, by decide +kernel, rfl, Or.inl (List.mem_of_getElem? (i := 209) (by decide +kernel))⟩
theorem fX4_53 : FL RX4 53 4 3 .int false := ⟨RX4, TX4, 5, cf4, by decide, by decide +kernel, rfl, Or.inl (List.mem_of_getElem? (i := 210) (by decide +kernel))⟩
theorem fX4_98 : FL RX4 98 4 4 .int false := ⟨RX4, TX4, 5, cf4, by decide, by decide +kernel, rfl, Or.inl (List.mem_of_getElem? (i := 211) (by decide +kernel))⟩
theorem fX2_94 : Cond.fieldLink RX2 94 "AimDesk" "STEPS" "[I" ∈ lw_tbl ∨ ∃ host, Cond.fieldLinkNest RX2 94 "AimDesk" "STEPS" "[I" host ∈ lw_tbl := Or.inr ⟨"AimDesk", List.mem_of_getElem? (i := 391) (by decide +kernel)⟩
theorem fX3_106 : Cond.fieldLink RX3 106 "AimDesk" "STEPS" "[I" ∈ lw_tbl ∨ ∃ host, Cond.fieldLinkNest RX3 106 "AimDesk" "STEPS" "[I" host ∈ lw_tbl := Or.inr ⟨"AimDesk", List.mem_of_getElem? (i := 426) (by decide +kernel)⟩
theorem fX5_45 : FL RX5 45 5 0 .int false := ⟨RX5, TX5, 24, cf5, by decide, by decide +kernel, rfl, Or.inl (List.mem_of_getElem? (i := 522) (by decide +kernel))⟩
theorem fX5_7 : FL RX5 7 5 1 (.array .int) true := ⟨RX5, TX5, 24, cf5, by decide, by decide +kernel, rfl, Or.inl (List.mem_of_getElem? (i := 523) (by decide +kernel))⟩
theorem fX5_60 : FL RX5 60 5 2 .int false := ⟨RX5, TX5, 24, cf5, by decide, by decide +kernel, rfl, Or.inl (List.mem_of_getElem? (i := 524) (by decide +kernel))⟩
theorem fX5_57 : FL RX5 57 5 3 .int false := ⟨RX5, TX5, 24, cf5, by decide, by decide +kernel, rfl, Or.inl (List.mem_of_getElem? (i := 525) (by decide +kernel))⟩
theorem fX5_13 : FL RX5 13 5 4 (.array .int) true := ⟨RX5, TX5, 24, cf5, by decide, by decide +kernel, rfl, Or.inl (List.mem_of_getElem? (i := 526) (by decide +kernel))⟩
theorem fX5_16 : FL RX5 16 5 5 (.array .int) true := ⟨RX5, TX5, 24, cf5, by decide, by decide +kernel, rfl, Or.inl (List.mem_of_getElem? (i := 527) (by decide +kernel))⟩
theorem fX5_19 : FL RX5 19 5 6 (.array .int) true := ⟨RX5, TX5, 24, cf5, by decide, by decide +kernel, rfl, Or.inl (List.mem_of_getElem? (i := 528) (by decide +kernel))⟩
theorem fX5_22 : FL RX5 22 5 7 (.array .int) true := ⟨RX5, TX5, 24, cf5, by decide, by decide +kernel, rfl, Or.inl (List.mem_of_getElem? (i := 529) (by decide +kernel))⟩
theorem fX5_63 : FL RX5 63 5 8 .int false := ⟨RX5, TX5, 24, cf5, by decide, by decide +kernel, rfl, Or.inl (List.mem_of_getElem? (i := 530) (by decide +kernel))⟩
theorem fX5_66 : FL RX5 66 5 9 .int false := ⟨RX5, TX5, 24, cf5, by decide, by decide +kernel, rfl, Or.inl (List.mem_of_getElem? (i := 531) (by decide +kernel))⟩
theorem fX5_69 : FL RX5 69 5 10 .int false := ⟨RX5, TX5, 24, cf5, by decide, by decide +kernel, rfl, Or.inl (List.mem_of_getElem? (i := 532) (by decide +kernel))⟩
theorem fX5_97 : FL RX5 97 5 11 .int false := ⟨RX5, TX5, 24, cf5, by decide, by decide +kernel, rfl, Or.inl (List.mem_of_getElem? (i := 533) (by decide +kernel))⟩
theorem fX5_25 : FL RX5 25 5 12 (.array .int) true := ⟨RX5, TX5, 24, cf5, by decide, by decide +kernel, rfl, Or.inl (List.mem_of_getElem? (i := 534) (by decide +kernel))⟩
theorem fX5_28 : FL RX5 28 5 13 (.array .boolean) true := ⟨RX5, TX5, 24, cf5, by decide, by decide +kernel, rfl, Or.inl (List.mem_of_getElem? (i := 535) (by decide +kernel))⟩
theorem fX5_32 : FL RX5 32 5 14 (.array .int) true := ⟨RX5, TX5, 24, cf5, by decide, by decide +kernel, rfl, Or.inl (List.mem_of_getElem? (i := 536) (by decide +kernel))⟩
theorem fX5_114 : FL RX5 114 5 15 .int false := ⟨RX5, TX5, 24, cf5, by decide, by decide +kernel, rfl, Or.inl (List.mem_of_getElem? (i := 537) (by decide +kernel))⟩
theorem fX5_117 : FL RX5 117 5 16 .int false := ⟨RX5, TX5, 24, cf5, by decide, by decide +kernel, rfl, Or.inl (List.mem_of_getElem? (i := 538) (by decide +kernel))⟩
theorem fX5_35 : FL RX5 35 5 17 (.array .int) true := ⟨RX5, TX5, 24, cf5, by decide, by decide +kernel, rfl, Or.inl (List.mem_of_getElem? (i := 539) (by decide +kernel))⟩
theorem fX5_153 : FL RX5 153 5 18 .int false := ⟨RX5, TX5, 24, cf5, by decide, by decide +kernel, rfl, Or.inl (List.mem_of_getElem? (i := 540) (by decide +kernel))⟩
theorem fX5_38 : FL RX5 38 5 19 (.array .int) true := ⟨RX5, TX5, 24, cf5, by decide, by decide +kernel, rfl, Or.inl (List.mem_of_getElem? (i := 541) (by decide +kernel))⟩
theorem fX5_168 : FL RX5 168 5 20 .int false := ⟨RX5, TX5, 24, cf5, by decide, by decide +kernel, rfl, Or.inl (List.mem_of_getElem? (i := 542) (by decide +kernel))⟩
theorem fX5_171 : FL RX5 171 5 21 .int false := ⟨RX5, TX5, 24, cf5, by decide, by decide +kernel, rfl, Or.inl (List.mem_of_getElem? (i := 543) (by decide +kernel))⟩
theorem fX5_174 : FL RX5 174 5 22 .int false := ⟨RX5, TX5, 24, cf5, by decide, by decide +kernel, rfl, Or.inl (List.mem_of_getElem? (i := 544) (by decide +kernel))⟩
theorem fX5_194 : FL RX5 194 5 23 .long false := ⟨RX5, TX5, 24, cf5, by decide, by decide +kernel, rfl, Or.inl (List.mem_of_getElem? (i := 545) (by decide +kernel))⟩
theorem kX0_append : MV mX0_append 1 := ⟨⟨List.mem_of_getElem? (i := 230) (by decide +kernel), List.mem_of_getElem? (i := 73) (by decide +kernel), by decide +kernel, by decide +kernel, by decide +kernel, by decide⟩, List.mem_of_getElem? (i := 229) (by decide +kernel), List.mem_of_getElem? (i := 0) (by decide +kernel)⟩
theorem kX0_codeAt : MV mX0_codeAt 1 := ⟨⟨List.mem_of_getElem? (i := 250) (by decide +kernel), List.mem_of_getElem? (i := 73) (by decide +kernel), by decide +kernel, by decide +kernel, by decide +kernel, by decide⟩, List.mem_of_getElem? (i := 249) (by decide +kernel), List.mem_of_getElem? (i := 3) (by decide +kernel)⟩
theorem kX0_figureAt : MV mX0_figureAt 1 := ⟨⟨List.mem_of_getElem? (i := 267) (by decide +kernel), List.mem_of_getElem? (i := 73) (by decide +kernel), by decide +kernel, by decide +kernel, by decide +kernel, by decide⟩, List.mem_of_getElem? (i := 266) (by decide +kernel), List.mem_of_getElem? (i := 6) (by decide +kernel)⟩
theorem kX0_firstFault : MV mX0_firstFault 0 := ⟨⟨List.mem_of_getElem? (i := 242) (by decide +kernel), List.mem_of_getElem? (i := 73) (by decide +kernel), by decide +kernel, by decide +kernel, by decide +kernel, by decide⟩, List.mem_of_getElem? (i := 241) (by decide +kernel), List.mem_of_getElem? (i := 1) (by decide +kernel)⟩
theorem kX0_fits : MV mX0_fits 1 := ⟨⟨List.mem_of_getElem? (i := 246) (by decide +kernel), List.mem_of_getElem? (i := 73) (by decide +kernel), by decide +kernel, by decide +kernel, by decide +kernel, by decide⟩, List.mem_of_getElem? (i := 245) (by decide +kernel), List.mem_of_getElem? (i := 2) (by decide +kernel)⟩
theorem kX0_isField : MV mX0_isField 0 := ⟨⟨List.mem_of_getElem? (i := 258) (by decide +kernel), List.mem_of_getElem? (i := 73) (by decide +kernel), by decide +kernel, by decide +kernel, by decide +kernel, by decide⟩, List.mem_of_getElem? (i := 257) (by decide +kernel), List.mem_of_getElem? (i := 4) (by decide +kernel)⟩
theorem kX1_moveAt : MV mX1_moveAt 1 := ⟨⟨List.mem_of_getElem? (i := 456) (by decide +kernel), List.mem_of_getElem? (i := 76) (by decide +kernel), by decide +kernel, by decide +kernel, by decide +kernel, by decide⟩, List.mem_of_getElem? (i := 455) (by decide +kernel), List.mem_of_getElem? (i := 33) (by decide +kernel)⟩
theorem kX2_forget : MV mX2_forget 0 := ⟨⟨List.mem_of_getElem? (i := 289) (by decide +kernel), List.mem_of_getElem? (i := 75) (by decide +kernel), by decide +kernel, by decide +kernel, by decide +kernel, by decide⟩, List.mem_of_getElem? (i := 288) (by decide +kernel), List.mem_of_getElem? (i := 10) (by decide +kernel)⟩
theorem kX2_planWithBest : MV mX2_planWithBest 2 := ⟨⟨List.mem_of_getElem? (i := 373) (by decide +kernel), List.mem_of_getElem? (i := 75) (by decide +kernel), by decide +kernel, by decide +kernel, by decide +kernel, by decide⟩, List.mem_of_getElem? (i := 372) (by decide +kernel), List.mem_of_getElem? (i := 20) (by decide +kernel)⟩
theorem kX2_planWithChange : MV mX2_planWithChange 2 := ⟨⟨List.mem_of_getElem? (i := 417) (by decide +kernel), List.mem_of_getElem? (i := 75) (by decide +kernel), by decide +kernel, by decide +kernel, by decide +kernel, by decide⟩, List.mem_of_getElem? (i := 416) (by decide +kernel), List.mem_of_getElem? (i := 24) (by decide +kernel)⟩
theorem kX2_findBest : MV mX2_findBest 2 := ⟨⟨List.mem_of_getElem? (i := 377) (by decide +kernel), List.mem_of_getElem? (i := 75) (by decide +kernel), by decide +kernel, by decide +kernel, by decide +kernel, by decide⟩, List.mem_of_getElem? (i := 376) (by decide +kernel), List.mem_of_getElem? (i := 21) (by decide +kernel)⟩
theorem kX2_openFrom : MS mX2_openFrom 7 := ⟨⟨List.mem_of_getElem? (i := 381) (by decide +kernel), List.mem_of_getElem? (i := 75) (by decide +kernel), by decide +kernel, by decide +kernel, by decide +kernel, by decide⟩, List.mem_of_getElem? (i := 380) (by decide +kernel)⟩
theorem kX2_open : MS mX2_open 4 := ⟨⟨List.mem_of_getElem? (i := 386) (by decide +kernel), List.mem_of_getElem? (i := 75) (by decide +kernel), by decide +kernel, by decide +kernel, by decide +kernel, by decide⟩, List.mem_of_getElem? (i := 385) (by decide +kernel)⟩
theorem kX2_wayFrom : MV mX2_wayFrom 1 := ⟨⟨List.mem_of_getElem? (i := 434) (by decide +kernel), List.mem_of_getElem? (i := 75) (by decide +kernel), by decide +kernel, by decide +kernel, by decide +kernel, by decide⟩, List.mem_of_getElem? (i := 433) (by decide +kernel), List.mem_of_getElem? (i := 28) (by decide +kernel)⟩
theorem kX2_setWay : MV mX2_setWay 2 := ⟨⟨List.mem_of_getElem? (i := 430) (by decide +kernel), List.mem_of_getElem? (i := 75) (by decide +kernel), by decide +kernel, by decide +kernel, by decide +kernel, by decide⟩, List.mem_of_getElem? (i := 429) (by decide +kernel), List.mem_of_getElem? (i := 27) (by decide +kernel)⟩
theorem kX2_findChange : MV mX2_findChange 2 := ⟨⟨List.mem_of_getElem? (i := 421) (by decide +kernel), List.mem_of_getElem? (i := 75) (by decide +kernel), by decide +kernel, by decide +kernel, by decide +kernel, by decide⟩, List.mem_of_getElem? (i := 420) (by decide +kernel), List.mem_of_getElem? (i := 25) (by decide +kernel)⟩
theorem kX2_widen : MV mX2_widen 2 := ⟨⟨List.mem_of_getElem? (i := 438) (by decide +kernel), List.mem_of_getElem? (i := 75) (by decide +kernel), by decide +kernel, by decide +kernel, by decide +kernel, by decide⟩, List.mem_of_getElem? (i := 437) (by decide +kernel), List.mem_of_getElem? (i := 29) (by decide +kernel)⟩
theorem kX2_markBeside : MV mX2_markBeside 3 := ⟨⟨List.mem_of_getElem? (i := 442) (by decide +kernel), List.mem_of_getElem? (i := 75) (by decide +kernel), by decide +kernel, by decide +kernel, by decide +kernel, by decide⟩, List.mem_of_getElem? (i := 441) (by decide +kernel), List.mem_of_getElem? (i := 30) (by decide +kernel)⟩
theorem kX2_noteMoves : MV mX2_noteMoves 3 := ⟨⟨List.mem_of_getElem? (i := 446) (by decide +kernel), List.mem_of_getElem? (i := 75) (by decide +kernel), by decide +kernel, by decide +kernel, by decide +kernel, by decide⟩, List.mem_of_getElem? (i := 445) (by decide +kernel), List.mem_of_getElem? (i := 31) (by decide +kernel)⟩
theorem kX2_leastMove : MV mX2_leastMove 3 := ⟨⟨List.mem_of_getElem? (i := 451) (by decide +kernel), List.mem_of_getElem? (i := 75) (by decide +kernel), by decide +kernel, by decide +kernel, by decide +kernel, by decide⟩, List.mem_of_getElem? (i := 450) (by decide +kernel), List.mem_of_getElem? (i := 32) (by decide +kernel)⟩
theorem kX3_isRead : MV mX3_isRead 0 := ⟨⟨List.mem_of_getElem? (i := 303) (by decide +kernel), List.mem_of_getElem? (i := 74) (by decide +kernel), by decide +kernel, by decide +kernel, by decide +kernel, by decide⟩, List.mem_of_getElem? (i := 302) (by decide +kernel), List.mem_of_getElem? (i := 11) (by decide +kernel)⟩
theorem kX3_hasMirror : MV mX3_hasMirror 1 := ⟨⟨List.mem_of_getElem? (i := 311) (by decide +kernel), List.mem_of_getElem? (i := 74) (by decide +kernel), by decide +kernel, by decide +kernel, by decide +kernel, by decide⟩, List.mem_of_getElem? (i := 310) (by decide +kernel), List.mem_of_getElem? (i := 12) (by decide +kernel)⟩
theorem kX3_hasPatch : MV mX3_hasPatch 1 := ⟨⟨List.mem_of_getElem? (i := 278) (by decide +kernel), List.mem_of_getElem? (i := 74) (by decide +kernel), by decide +kernel, by decide +kernel, by decide +kernel, by decide⟩, List.mem_of_getElem? (i := 277) (by decide +kernel), List.mem_of_getElem? (i := 8) (by decide +kernel)⟩
theorem kX3_isShaded : MV mX3_isShaded 1 := ⟨⟨List.mem_of_getElem? (i := 349) (by decide +kernel), List.mem_of_getElem? (i := 74) (by decide +kernel), by decide +kernel, by decide +kernel, by decide +kernel, by decide⟩, List.mem_of_getElem? (i := 348) (by decide +kernel), List.mem_of_getElem? (i := 18) (by decide +kernel)⟩
theorem kX3_isStuck : MV mX3_isStuck 1 := ⟨⟨List.mem_of_getElem? (i := 322) (by decide +kernel), List.mem_of_getElem? (i := 74) (by decide +kernel), by decide +kernel, by decide +kernel, by decide +kernel, by decide⟩, List.mem_of_getElem? (i := 321) (by decide +kernel), List.mem_of_getElem? (i := 13) (by decide +kernel)⟩
theorem kX3_read : MV mX3_read 1 := ⟨⟨List.mem_of_getElem? (i := 263) (by decide +kernel), List.mem_of_getElem? (i := 74) (by decide +kernel), by decide +kernel, by decide +kernel, by decide +kernel, by decide⟩, List.mem_of_getElem? (i := 262) (by decide +kernel), List.mem_of_getElem? (i := 5) (by decide +kernel)⟩
theorem kX3_lightAt : MV mX3_lightAt 3 := ⟨⟨List.mem_of_getElem? (i := 274) (by decide +kernel), List.mem_of_getElem? (i := 74) (by decide +kernel), by decide +kernel, by decide +kernel, by decide +kernel, by decide⟩, List.mem_of_getElem? (i := 273) (by decide +kernel), List.mem_of_getElem? (i := 7) (by decide +kernel)⟩
theorem kX3_light : MV mX3_light 2 := ⟨⟨List.mem_of_getElem? (i := 335) (by decide +kernel), List.mem_of_getElem? (i := 74) (by decide +kernel), by decide +kernel, by decide +kernel, by decide +kernel, by decide⟩, List.mem_of_getElem? (i := 334) (by decide +kernel), List.mem_of_getElem? (i := 16) (by decide +kernel)⟩
theorem kX3_measureSlack : MV mX3_measureSlack 0 := ⟨⟨List.mem_of_getElem? (i := 285) (by decide +kernel), List.mem_of_getElem? (i := 74) (by decide +kernel), by decide +kernel, by decide +kernel, by decide +kernel, by decide⟩, List.mem_of_getElem? (i := 284) (by decide +kernel), List.mem_of_getElem? (i := 9) (by decide +kernel)⟩
theorem kX3_isSafe : MV mX3_isSafe 1 := ⟨⟨List.mem_of_getElem? (i := 340) (by decide +kernel), List.mem_of_getElem? (i := 74) (by decide +kernel), by decide +kernel, by decide +kernel, by decide +kernel, by decide⟩, List.mem_of_getElem? (i := 339) (by decide +kernel), List.mem_of_getElem? (i := 17) (by decide +kernel)⟩
theorem kX3_heats : MV mX3_heats 0 := ⟨⟨List.mem_of_getElem? (i := 327) (by decide +kernel), List.mem_of_getElem? (i := 74) (by decide +kernel), by decide +kernel, by decide +kernel, by decide +kernel, by decide⟩, List.mem_of_getElem? (i := 326) (by decide +kernel), List.mem_of_getElem? (i := 14) (by decide +kernel)⟩
theorem kX3_heatsWithout : MV mX3_heatsWithout 1 := ⟨⟨List.mem_of_getElem? (i := 331) (by decide +kernel), List.mem_of_getElem? (i := 74) (by decide +kernel), by decide +kernel, by decide +kernel, by decide +kernel, by decide⟩, List.mem_of_getElem? (i := 330) (by decide +kernel), List.mem_of_getElem? (i := 15) (by decide +kernel)⟩
theorem kX3_aimingAt : MV mX3_aimingAt 1 := ⟨⟨List.mem_of_getElem? (i := 365) (by decide +kernel), List.mem_of_getElem? (i := 74) (by decide +kernel), by decide +kernel, by decide +kernel, by decide +kernel, by decide⟩, List.mem_of_getElem? (i := 364) (by decide +kernel), List.mem_of_getElem? (i := 19) (by decide +kernel)⟩
theorem kX3_bound : MV mX3_bound 0 := ⟨⟨List.mem_of_getElem? (i := 396) (by decide +kernel), List.mem_of_getElem? (i := 74) (by decide +kernel), by decide +kernel, by decide +kernel, by decide +kernel, by decide⟩, List.mem_of_getElem? (i := 395) (by decide +kernel), List.mem_of_getElem? (i := 22) (by decide +kernel)⟩
theorem kX3_mostLight : MV mX3_mostLight 1 := ⟨⟨List.mem_of_getElem? (i := 403) (by decide +kernel), List.mem_of_getElem? (i := 74) (by decide +kernel), by decide +kernel, by decide +kernel, by decide +kernel, by decide⟩, List.mem_of_getElem? (i := 402) (by decide +kernel), List.mem_of_getElem? (i := 23) (by decide +kernel)⟩
theorem kX3_placeNow : MV mX3_placeNow 0 := ⟨⟨List.mem_of_getElem? (i := 425) (by decide +kernel), List.mem_of_getElem? (i := 74) (by decide +kernel), by decide +kernel, by decide +kernel, by decide +kernel, by decide⟩, List.mem_of_getElem? (i := 424) (by decide +kernel), List.mem_of_getElem? (i := 26) (by decide +kernel)⟩
theorem kX3_bestTrade : MV mX3_bestTrade 0 := ⟨⟨List.mem_of_getElem? (i := 468) (by decide +kernel), List.mem_of_getElem? (i := 74) (by decide +kernel), by decide +kernel, by decide +kernel, by decide +kernel, by decide⟩, List.mem_of_getElem? (i := 467) (by decide +kernel), List.mem_of_getElem? (i := 34) (by decide +kernel)⟩
theorem kX3_heatsByTrade : MV mX3_heatsByTrade 2 := ⟨⟨List.mem_of_getElem? (i := 473) (by decide +kernel), List.mem_of_getElem? (i := 74) (by decide +kernel), by decide +kernel, by decide +kernel, by decide +kernel, by decide⟩, List.mem_of_getElem? (i := 472) (by decide +kernel), List.mem_of_getElem? (i := 35) (by decide +kernel)⟩
theorem kX3_swapAims : MV mX3_swapAims 2 := ⟨⟨List.mem_of_getElem? (i := 477) (by decide +kernel), List.mem_of_getElem? (i := 74) (by decide +kernel), by decide +kernel, by decide +kernel, by decide +kernel, by decide⟩, List.mem_of_getElem? (i := 476) (by decide +kernel), List.mem_of_getElem? (i := 36) (by decide +kernel)⟩
theorem kX3_bestRelief : MV mX3_bestRelief 0 := ⟨⟨List.mem_of_getElem? (i := 487) (by decide +kernel), List.mem_of_getElem? (i := 74) (by decide +kernel), by decide +kernel, by decide +kernel, by decide +kernel, by decide⟩, List.mem_of_getElem? (i := 486) (by decide +kernel), List.mem_of_getElem? (i := 37) (by decide +kernel)⟩
theorem kX4_letter : MV mX4_letter 1 := ⟨⟨List.mem_of_getElem? (i := 226) (by decide +kernel), List.mem_of_getElem? (i := 72) (by decide +kernel), by decide +kernel, by decide +kernel, by decide +kernel, by decide⟩, List.mem_of_getElem? (i := 224) (by decide +kernel), List.mem_of_getElem? (i := 225) (by decide +kernel)⟩
theorem kX4_blank : MV mX4_blank 0 := ⟨⟨List.mem_of_getElem? (i := 234) (by decide +kernel), List.mem_of_getElem? (i := 72) (by decide +kernel), by decide +kernel, by decide +kernel, by decide +kernel, by decide⟩, List.mem_of_getElem? (i := 232) (by decide +kernel), List.mem_of_getElem? (i := 233) (by decide +kernel)⟩
theorem kX4_fault : MV mX4_fault 0 := ⟨⟨List.mem_of_getElem? (i := 238) (by decide +kernel), List.mem_of_getElem? (i := 72) (by decide +kernel), by decide +kernel, by decide +kernel, by decide +kernel, by decide⟩, List.mem_of_getElem? (i := 236) (by decide +kernel), List.mem_of_getElem? (i := 237) (by decide +kernel)⟩
theorem kX4_field : MV mX4_field 0 := ⟨⟨List.mem_of_getElem? (i := 254) (by decide +kernel), List.mem_of_getElem? (i := 72) (by decide +kernel), by decide +kernel, by decide +kernel, by decide +kernel, by decide⟩, List.mem_of_getElem? (i := 252) (by decide +kernel), List.mem_of_getElem? (i := 253) (by decide +kernel)⟩
theorem kX4_ceiling : MV mX4_ceiling 2 := ⟨⟨List.mem_of_getElem? (i := 293) (by decide +kernel), List.mem_of_getElem? (i := 72) (by decide +kernel), by decide +kernel, by decide +kernel, by decide +kernel, by decide⟩, List.mem_of_getElem? (i := 291) (by decide +kernel), List.mem_of_getElem? (i := 292) (by decide +kernel)⟩
theorem kX4_shade : MV mX4_shade 1 := ⟨⟨List.mem_of_getElem? (i := 299) (by decide +kernel), List.mem_of_getElem? (i := 72) (by decide +kernel), by decide +kernel, by decide +kernel, by decide +kernel, by decide⟩, List.mem_of_getElem? (i := 297) (by decide +kernel), List.mem_of_getElem? (i := 298) (by decide +kernel)⟩
theorem kX4_stuck : MV mX4_stuck 2 := ⟨⟨List.mem_of_getElem? (i := 307) (by decide +kernel), List.mem_of_getElem? (i := 72) (by decide +kernel), by decide +kernel, by decide +kernel, by decide +kernel, by decide⟩, List.mem_of_getElem? (i := 305) (by decide +kernel), List.mem_of_getElem? (i := 306) (by decide +kernel)⟩
theorem kX4_aim : MV mX4_aim 2 := ⟨⟨List.mem_of_getElem? (i := 318) (by decide +kernel), List.mem_of_getElem? (i := 72) (by decide +kernel), by decide +kernel, by decide +kernel, by decide +kernel, by decide⟩, List.mem_of_getElem? (i := 316) (by decide +kernel), List.mem_of_getElem? (i := 317) (by decide +kernel)⟩
theorem kX4_mirror : MV mX4_mirror 2 := ⟨⟨List.mem_of_getElem? (i := 345) (by decide +kernel), List.mem_of_getElem? (i := 72) (by decide +kernel), by decide +kernel, by decide +kernel, by decide +kernel, by decide⟩, List.mem_of_getElem? (i := 343) (by decide +kernel), List.mem_of_getElem? (i := 344) (by decide +kernel)⟩
theorem kX4_patch : MV mX4_patch 2 := ⟨⟨List.mem_of_getElem? (i := 360) (by decide +kernel), List.mem_of_getElem? (i := 72) (by decide +kernel), by decide +kernel, by decide +kernel, by decide +kernel, by decide⟩, List.mem_of_getElem? (i := 358) (by decide +kernel), List.mem_of_getElem? (i := 359) (by decide +kernel)⟩
theorem kX4_best : MV mX4_best 2 := ⟨⟨List.mem_of_getElem? (i := 369) (by decide +kernel), List.mem_of_getElem? (i := 72) (by decide +kernel), by decide +kernel, by decide +kernel, by decide +kernel, by decide⟩, List.mem_of_getElem? (i := 367) (by decide +kernel), List.mem_of_getElem? (i := 368) (by decide +kernel)⟩
theorem kX4_change : MV mX4_change 2 := ⟨⟨List.mem_of_getElem? (i := 413) (by decide +kernel), List.mem_of_getElem? (i := 72) (by decide +kernel), by decide +kernel, by decide +kernel, by decide +kernel, by decide⟩, List.mem_of_getElem? (i := 411) (by decide +kernel), List.mem_of_getElem? (i := 412) (by decide +kernel)⟩
theorem kX4_go : MV mX4_go 1 := ⟨⟨List.mem_of_getElem? (i := 460) (by decide +kernel), List.mem_of_getElem? (i := 72) (by decide +kernel), by decide +kernel, by decide +kernel, by decide +kernel, by decide⟩, List.mem_of_getElem? (i := 458) (by decide +kernel), List.mem_of_getElem? (i := 459) (by decide +kernel)⟩
theorem kX4_trade : MV mX4_trade 1 := ⟨⟨List.mem_of_getElem? (i := 464) (by decide +kernel), List.mem_of_getElem? (i := 72) (by decide +kernel), by decide +kernel, by decide +kernel, by decide +kernel, by decide⟩, List.mem_of_getElem? (i := 462) (by decide +kernel), List.mem_of_getElem? (i := 463) (by decide +kernel)⟩
theorem kX4_relief : MV mX4_relief 0 := ⟨⟨List.mem_of_getElem? (i := 483) (by decide +kernel), List.mem_of_getElem? (i := 72) (by decide +kernel), by decide +kernel, by decide +kernel, by decide +kernel, by decide⟩, List.mem_of_getElem? (i := 481) (by decide +kernel), List.mem_of_getElem? (i := 482) (by decide +kernel)⟩
theorem kX4_count : MV mX4_count 1 := ⟨⟨List.mem_of_getElem? (i := 497) (by decide +kernel), List.mem_of_getElem? (i := 72) (by decide +kernel), by decide +kernel, by decide +kernel, by decide +kernel, by decide⟩, List.mem_of_getElem? (i := 495) (by decide +kernel), List.mem_of_getElem? (i := 496) (by decide +kernel)⟩
theorem kX4_digest : MV mX4_digest 0 := ⟨⟨List.mem_of_getElem? (i := 501) (by decide +kernel), List.mem_of_getElem? (i := 72) (by decide +kernel), by decide +kernel, by decide +kernel, by decide +kernel, by decide⟩, List.mem_of_getElem? (i := 499) (by decide +kernel), List.mem_of_getElem? (i := 500) (by decide +kernel)⟩
theorem kX4_digestOfParts : MV mX4_digestOfParts 1 := ⟨⟨List.mem_of_getElem? (i := 506) (by decide +kernel), List.mem_of_getElem? (i := 72) (by decide +kernel), by decide +kernel, by decide +kernel, by decide +kernel, by decide⟩, List.mem_of_getElem? (i := 505) (by decide +kernel), List.mem_of_getElem? (i := 38) (by decide +kernel)⟩
theorem kX4_bit : MS mX4_bit 2 := ⟨⟨List.mem_of_getElem? (i := 314) (by decide +kernel), List.mem_of_getElem? (i := 72) (by decide +kernel), by decide +kernel, by decide +kernel, by decide +kernel, by decide⟩, List.mem_of_getElem? (i := 313) (by decide +kernel)⟩
theorem kX4_heatOf : MS mX4_heatOf 2 := ⟨⟨List.mem_of_getElem? (i := 356) (by decide +kernel), List.mem_of_getElem? (i := 72) (by decide +kernel), by decide +kernel, by decide +kernel, by decide +kernel, by decide⟩, List.mem_of_getElem? (i := 355) (by decide +kernel)⟩
theorem kX4_sum : MS mX4_sum 1 := ⟨⟨List.mem_of_getElem? (i := 353) (by decide +kernel), List.mem_of_getElem? (i := 72) (by decide +kernel), by decide +kernel, by decide +kernel, by decide +kernel, by decide⟩, List.mem_of_getElem? (i := 352) (by decide +kernel)⟩
theorem kX4_aimIn : MS mX4_aimIn 2 := ⟨⟨List.mem_of_getElem? (i := 409) (by decide +kernel), List.mem_of_getElem? (i := 72) (by decide +kernel), by decide +kernel, by decide +kernel, by decide +kernel, by decide⟩, List.mem_of_getElem? (i := 408) (by decide +kernel)⟩
theorem kX5_within : MS mX5_within 3 := ⟨⟨List.mem_of_getElem? (i := 602) (by decide +kernel), List.mem_of_getElem? (i := 77) (by decide +kernel), by decide +kernel, by decide +kernel, by decide +kernel, by decide⟩, List.mem_of_getElem? (i := 601) (by decide +kernel)⟩
theorem kX5_has : MS mX5_has 2 := ⟨⟨List.mem_of_getElem? (i := 653) (by decide +kernel), List.mem_of_getElem? (i := 77) (by decide +kernel), by decide +kernel, by decide +kernel, by decide +kernel, by decide⟩, List.mem_of_getElem? (i := 652) (by decide +kernel)⟩
theorem kX5_letter : MV mX5_letter 1 := ⟨⟨List.mem_of_getElem? (i := 599) (by decide +kernel), List.mem_of_getElem? (i := 77) (by decide +kernel), by decide +kernel, by decide +kernel, by decide +kernel, by decide⟩, List.mem_of_getElem? (i := 597) (by decide +kernel), List.mem_of_getElem? (i := 598) (by decide +kernel)⟩
theorem kX5_blank : MV mX5_blank 0 := ⟨⟨List.mem_of_getElem? (i := 606) (by decide +kernel), List.mem_of_getElem? (i := 77) (by decide +kernel), by decide +kernel, by decide +kernel, by decide +kernel, by decide⟩, List.mem_of_getElem? (i := 604) (by decide +kernel), List.mem_of_getElem? (i := 605) (by decide +kernel)⟩
theorem kX5_isRight : MV mX5_isRight 1 := ⟨⟨List.mem_of_getElem? (i := 618) (by decide +kernel), List.mem_of_getElem? (i := 77) (by decide +kernel), by decide +kernel, by decide +kernel, by decide +kernel, by decide⟩, List.mem_of_getElem? (i := 617) (by decide +kernel), List.mem_of_getElem? (i := 40) (by decide +kernel)⟩
theorem kX5_rightLetters : MV mX5_rightLetters 0 := ⟨⟨List.mem_of_getElem? (i := 614) (by decide +kernel), List.mem_of_getElem? (i := 77) (by decide +kernel), by decide +kernel, by decide +kernel, by decide +kernel, by decide⟩, List.mem_of_getElem? (i := 613) (by decide +kernel), List.mem_of_getElem? (i := 39) (by decide +kernel)⟩
theorem kX5_fault : MV mX5_fault 0 := ⟨⟨List.mem_of_getElem? (i := 610) (by decide +kernel), List.mem_of_getElem? (i := 77) (by decide +kernel), by decide +kernel, by decide +kernel, by decide +kernel, by decide⟩, List.mem_of_getElem? (i := 608) (by decide +kernel), List.mem_of_getElem? (i := 609) (by decide +kernel)⟩
theorem kX5_field : MV mX5_field 0 := ⟨⟨List.mem_of_getElem? (i := 622) (by decide +kernel), List.mem_of_getElem? (i := 77) (by decide +kernel), by decide +kernel, by decide +kernel, by decide +kernel, by decide⟩, List.mem_of_getElem? (i := 620) (by decide +kernel), List.mem_of_getElem? (i := 621) (by decide +kernel)⟩
theorem kX5_isMirror : MV mX5_isMirror 1 := ⟨⟨List.mem_of_getElem? (i := 642) (by decide +kernel), List.mem_of_getElem? (i := 77) (by decide +kernel), by decide +kernel, by decide +kernel, by decide +kernel, by decide⟩, List.mem_of_getElem? (i := 641) (by decide +kernel), List.mem_of_getElem? (i := 42) (by decide +kernel)⟩
theorem kX5_isPatch : MV mX5_isPatch 1 := ⟨⟨List.mem_of_getElem? (i := 630) (by decide +kernel), List.mem_of_getElem? (i := 77) (by decide +kernel), by decide +kernel, by decide +kernel, by decide +kernel, by decide⟩, List.mem_of_getElem? (i := 629) (by decide +kernel), List.mem_of_getElem? (i := 41) (by decide +kernel)⟩
theorem kX5_gives : MV mX5_gives 3 := ⟨⟨List.mem_of_getElem? (i := 665) (by decide +kernel), List.mem_of_getElem? (i := 77) (by decide +kernel), by decide +kernel, by decide +kernel, by decide +kernel, by decide⟩, List.mem_of_getElem? (i := 664) (by decide +kernel), List.mem_of_getElem? (i := 46) (by decide +kernel)⟩
theorem kX5_givesAll : MV mX5_givesAll 2 := ⟨⟨List.mem_of_getElem? (i := 677) (by decide +kernel), List.mem_of_getElem? (i := 77) (by decide +kernel), by decide +kernel, by decide +kernel, by decide +kernel, by decide⟩, List.mem_of_getElem? (i := 676) (by decide +kernel), List.mem_of_getElem? (i := 48) (by decide +kernel)⟩
theorem kX5_asTheyAre : MV mX5_asTheyAre 0 := ⟨⟨List.mem_of_getElem? (i := 650) (by decide +kernel), List.mem_of_getElem? (i := 77) (by decide +kernel), by decide +kernel, by decide +kernel, by decide +kernel, by decide⟩, List.mem_of_getElem? (i := 649) (by decide +kernel), List.mem_of_getElem? (i := 43) (by decide +kernel)⟩
theorem kX5_heatAt : MV mX5_heatAt 2 := ⟨⟨List.mem_of_getElem? (i := 661) (by decide +kernel), List.mem_of_getElem? (i := 77) (by decide +kernel), by decide +kernel, by decide +kernel, by decide +kernel, by decide⟩, List.mem_of_getElem? (i := 660) (by decide +kernel), List.mem_of_getElem? (i := 45) (by decide +kernel)⟩
theorem kX5_isGood : MV mX5_isGood 1 := ⟨⟨List.mem_of_getElem? (i := 657) (by decide +kernel), List.mem_of_getElem? (i := 77) (by decide +kernel), by decide +kernel, by decide +kernel, by decide +kernel, by decide⟩, List.mem_of_getElem? (i := 656) (by decide +kernel), List.mem_of_getElem? (i := 44) (by decide +kernel)⟩
theorem kX5_caught : MV mX5_caught 0 := ⟨⟨List.mem_of_getElem? (i := 709) (by decide +kernel), List.mem_of_getElem? (i := 77) (by decide +kernel), by decide +kernel, by decide +kernel, by decide +kernel, by decide⟩, List.mem_of_getElem? (i := 708) (by decide +kernel), List.mem_of_getElem? (i := 54) (by decide +kernel)⟩
theorem kX5_ceiling : MV mX5_ceiling 2 := ⟨⟨List.mem_of_getElem? (i := 626) (by decide +kernel), List.mem_of_getElem? (i := 77) (by decide +kernel), by decide +kernel, by decide +kernel, by decide +kernel, by decide⟩, List.mem_of_getElem? (i := 624) (by decide +kernel), List.mem_of_getElem? (i := 625) (by decide +kernel)⟩
theorem kX5_shade : MV mX5_shade 1 := ⟨⟨List.mem_of_getElem? (i := 634) (by decide +kernel), List.mem_of_getElem? (i := 77) (by decide +kernel), by decide +kernel, by decide +kernel, by decide +kernel, by decide⟩, List.mem_of_getElem? (i := 632) (by decide +kernel), List.mem_of_getElem? (i := 633) (by decide +kernel)⟩
theorem kX5_stuck : MV mX5_stuck 2 := ⟨⟨List.mem_of_getElem? (i := 638) (by decide +kernel), List.mem_of_getElem? (i := 77) (by decide +kernel), by decide +kernel, by decide +kernel, by decide +kernel, by decide⟩, List.mem_of_getElem? (i := 636) (by decide +kernel), List.mem_of_getElem? (i := 637) (by decide +kernel)⟩
theorem kX5_aim : MV mX5_aim 2 := ⟨⟨List.mem_of_getElem? (i := 646) (by decide +kernel), List.mem_of_getElem? (i := 77) (by decide +kernel), by decide +kernel, by decide +kernel, by decide +kernel, by decide⟩, List.mem_of_getElem? (i := 644) (by decide +kernel), List.mem_of_getElem? (i := 645) (by decide +kernel)⟩
theorem kX5_ofMirror : MV mX5_ofMirror 2 := ⟨⟨List.mem_of_getElem? (i := 673) (by decide +kernel), List.mem_of_getElem? (i := 77) (by decide +kernel), by decide +kernel, by decide +kernel, by decide +kernel, by decide⟩, List.mem_of_getElem? (i := 672) (by decide +kernel), List.mem_of_getElem? (i := 47) (by decide +kernel)⟩
theorem kX5_mirror : MV mX5_mirror 2 := ⟨⟨List.mem_of_getElem? (i := 669) (by decide +kernel), List.mem_of_getElem? (i := 77) (by decide +kernel), by decide +kernel, by decide +kernel, by decide +kernel, by decide⟩, List.mem_of_getElem? (i := 667) (by decide +kernel), List.mem_of_getElem? (i := 668) (by decide +kernel)⟩
theorem kX5_aimedAt : MV mX5_aimedAt 1 := ⟨⟨List.mem_of_getElem? (i := 689) (by decide +kernel), List.mem_of_getElem? (i := 77) (by decide +kernel), by decide +kernel, by decide +kernel, by decide +kernel, by decide⟩, List.mem_of_getElem? (i := 688) (by decide +kernel), List.mem_of_getElem? (i := 50) (by decide +kernel)⟩
theorem kX5_ofPatch : MV mX5_ofPatch 2 := ⟨⟨List.mem_of_getElem? (i := 685) (by decide +kernel), List.mem_of_getElem? (i := 77) (by decide +kernel), by decide +kernel, by decide +kernel, by decide +kernel, by decide⟩, List.mem_of_getElem? (i := 684) (by decide +kernel), List.mem_of_getElem? (i := 49) (by decide +kernel)⟩
theorem kX5_patch : MV mX5_patch 2 := ⟨⟨List.mem_of_getElem? (i := 681) (by decide +kernel), List.mem_of_getElem? (i := 77) (by decide +kernel), by decide +kernel, by decide +kernel, by decide +kernel, by decide⟩, List.mem_of_getElem? (i := 679) (by decide +kernel), List.mem_of_getElem? (i := 680) (by decide +kernel)⟩
theorem kX5_unitOf : MV mX5_unitOf 1 := ⟨⟨List.mem_of_getElem? (i := 733) (by decide +kernel), List.mem_of_getElem? (i := 77) (by decide +kernel), by decide +kernel, by decide +kernel, by decide +kernel, by decide⟩, List.mem_of_getElem? (i := 732) (by decide +kernel), List.mem_of_getElem? (i := 59) (by decide +kernel)⟩
theorem kX5_codeNow : MV mX5_codeNow 0 := ⟨⟨List.mem_of_getElem? (i := 740) (by decide +kernel), List.mem_of_getElem? (i := 77) (by decide +kernel), by decide +kernel, by decide +kernel, by decide +kernel, by decide⟩, List.mem_of_getElem? (i := 739) (by decide +kernel), List.mem_of_getElem? (i := 60) (by decide +kernel)⟩
theorem kX5_layCode : MV mX5_layCode 1 := ⟨⟨List.mem_of_getElem? (i := 701) (by decide +kernel), List.mem_of_getElem? (i := 77) (by decide +kernel), by decide +kernel, by decide +kernel, by decide +kernel, by decide⟩, List.mem_of_getElem? (i := 700) (by decide +kernel), List.mem_of_getElem? (i := 52) (by decide +kernel)⟩
theorem kX5_areThere : MV mX5_areThere 0 := ⟨⟨List.mem_of_getElem? (i := 705) (by decide +kernel), List.mem_of_getElem? (i := 77) (by decide +kernel), by decide +kernel, by decide +kernel, by decide +kernel, by decide⟩, List.mem_of_getElem? (i := 704) (by decide +kernel), List.mem_of_getElem? (i := 53) (by decide +kernel)⟩
theorem kX5_layBest : MV mX5_layBest 1 := ⟨⟨List.mem_of_getElem? (i := 697) (by decide +kernel), List.mem_of_getElem? (i := 77) (by decide +kernel), by decide +kernel, by decide +kernel, by decide +kernel, by decide⟩, List.mem_of_getElem? (i := 696) (by decide +kernel), List.mem_of_getElem? (i := 51) (by decide +kernel)⟩
theorem kX5_boundNow : MV mX5_boundNow 0 := ⟨⟨List.mem_of_getElem? (i := 717) (by decide +kernel), List.mem_of_getElem? (i := 77) (by decide +kernel), by decide +kernel, by decide +kernel, by decide +kernel, by decide⟩, List.mem_of_getElem? (i := 716) (by decide +kernel), List.mem_of_getElem? (i := 56) (by decide +kernel)⟩
theorem kX5_bestNow : MV mX5_bestNow 1 := ⟨⟨List.mem_of_getElem? (i := 713) (by decide +kernel), List.mem_of_getElem? (i := 77) (by decide +kernel), by decide +kernel, by decide +kernel, by decide +kernel, by decide⟩, List.mem_of_getElem? (i := 712) (by decide +kernel), List.mem_of_getElem? (i := 55) (by decide +kernel)⟩
theorem kX5_best : MV mX5_best 2 := ⟨⟨List.mem_of_getElem? (i := 693) (by decide +kernel), List.mem_of_getElem? (i := 77) (by decide +kernel), by decide +kernel, by decide +kernel, by decide +kernel, by decide⟩, List.mem_of_getElem? (i := 691) (by decide +kernel), List.mem_of_getElem? (i := 692) (by decide +kernel)⟩
theorem kX5_figure : MS mX5_figure 2 := ⟨⟨List.mem_of_getElem? (i := 736) (by decide +kernel), List.mem_of_getElem? (i := 77) (by decide +kernel), by decide +kernel, by decide +kernel, by decide +kernel, by decide⟩, List.mem_of_getElem? (i := 735) (by decide +kernel)⟩
theorem kX5_layFar : MV mX5_layFar 0 := ⟨⟨List.mem_of_getElem? (i := 729) (by decide +kernel), List.mem_of_getElem? (i := 77) (by decide +kernel), by decide +kernel, by decide +kernel, by decide +kernel, by decide⟩, List.mem_of_getElem? (i := 728) (by decide +kernel), List.mem_of_getElem? (i := 58) (by decide +kernel)⟩
theorem kX5_moveFrom : MV mX5_moveFrom 2 := ⟨⟨List.mem_of_getElem? (i := 744) (by decide +kernel), List.mem_of_getElem? (i := 77) (by decide +kernel), by decide +kernel, by decide +kernel, by decide +kernel, by decide⟩, List.mem_of_getElem? (i := 743) (by decide +kernel), List.mem_of_getElem? (i := 61) (by decide +kernel)⟩
theorem kX5_moved : MV mX5_moved 2 := ⟨⟨List.mem_of_getElem? (i := 748) (by decide +kernel), List.mem_of_getElem? (i := 77) (by decide +kernel), by decide +kernel, by decide +kernel, by decide +kernel, by decide⟩, List.mem_of_getElem? (i := 747) (by decide +kernel), List.mem_of_getElem? (i := 62) (by decide +kernel)⟩
theorem kX5_layChange : MV mX5_layChange 1 := ⟨⟨List.mem_of_getElem? (i := 725) (by decide +kernel), List.mem_of_getElem? (i := 77) (by decide +kernel), by decide +kernel, by decide +kernel, by decide +kernel, by decide⟩, List.mem_of_getElem? (i := 724) (by decide +kernel), List.mem_of_getElem? (i := 57) (by decide +kernel)⟩
theorem kX5_changeNow : MV mX5_changeNow 1 := ⟨⟨List.mem_of_getElem? (i := 752) (by decide +kernel), List.mem_of_getElem? (i := 77) (by decide +kernel), by decide +kernel, by decide +kernel, by decide +kernel, by decide⟩, List.mem_of_getElem? (i := 751) (by decide +kernel), List.mem_of_getElem? (i := 63) (by decide +kernel)⟩
theorem kX5_change : MV mX5_change 2 := ⟨⟨List.mem_of_getElem? (i := 721) (by decide +kernel), List.mem_of_getElem? (i := 77) (by decide +kernel), by decide +kernel, by decide +kernel, by decide +kernel, by decide⟩, List.mem_of_getElem? (i := 719) (by decide +kernel), List.mem_of_getElem? (i := 720) (by decide +kernel)⟩
theorem kX5_go : MV mX5_go 1 := ⟨⟨List.mem_of_getElem? (i := 756) (by decide +kernel), List.mem_of_getElem? (i := 77) (by decide +kernel), by decide +kernel, by decide +kernel, by decide +kernel, by decide⟩, List.mem_of_getElem? (i := 754) (by decide +kernel), List.mem_of_getElem? (i := 755) (by decide +kernel)⟩
theorem kX5_layTrade : MV mX5_layTrade 0 := ⟨⟨List.mem_of_getElem? (i := 764) (by decide +kernel), List.mem_of_getElem? (i := 77) (by decide +kernel), by decide +kernel, by decide +kernel, by decide +kernel, by decide⟩, List.mem_of_getElem? (i := 763) (by decide +kernel), List.mem_of_getElem? (i := 64) (by decide +kernel)⟩
theorem kX5_tradeNow : MV mX5_tradeNow 1 := ⟨⟨List.mem_of_getElem? (i := 768) (by decide +kernel), List.mem_of_getElem? (i := 77) (by decide +kernel), by decide +kernel, by decide +kernel, by decide +kernel, by decide⟩, List.mem_of_getElem? (i := 767) (by decide +kernel), List.mem_of_getElem? (i := 65) (by decide +kernel)⟩
theorem kX5_trade : MV mX5_trade 1 := ⟨⟨List.mem_of_getElem? (i := 760) (by decide +kernel), List.mem_of_getElem? (i := 77) (by decide +kernel), by decide +kernel, by decide +kernel, by decide +kernel, by decide⟩, List.mem_of_getElem? (i := 758) (by decide +kernel), List.mem_of_getElem? (i := 759) (by decide +kernel)⟩
theorem kX5_ones : MS mX5_ones 1 := ⟨⟨List.mem_of_getElem? (i := 779) (by decide +kernel), List.mem_of_getElem? (i := 77) (by decide +kernel), by decide +kernel, by decide +kernel, by decide +kernel, by decide⟩, List.mem_of_getElem? (i := 778) (by decide +kernel)⟩
theorem kX5_reliefNow : MV mX5_reliefNow 0 := ⟨⟨List.mem_of_getElem? (i := 776) (by decide +kernel), List.mem_of_getElem? (i := 77) (by decide +kernel), by decide +kernel, by decide +kernel, by decide +kernel, by decide⟩, List.mem_of_getElem? (i := 775) (by decide +kernel), List.mem_of_getElem? (i := 66) (by decide +kernel)⟩
theorem kX5_relief : MV mX5_relief 0 := ⟨⟨List.mem_of_getElem? (i := 772) (by decide +kernel), List.mem_of_getElem? (i := 77) (by decide +kernel), by decide +kernel, by decide +kernel, by decide +kernel, by decide⟩, List.mem_of_getElem? (i := 770) (by decide +kernel), List.mem_of_getElem? (i := 771) (by decide +kernel)⟩
theorem kX5_howMany : MV mX5_howMany 1 := ⟨⟨List.mem_of_getElem? (i := 787) (by decide +kernel), List.mem_of_getElem? (i := 77) (by decide +kernel), by decide +kernel, by decide +kernel, by decide +kernel, by decide⟩, List.mem_of_getElem? (i := 786) (by decide +kernel), List.mem_of_getElem? (i := 67) (by decide +kernel)⟩
theorem kX5_count : MV mX5_count 1 := ⟨⟨List.mem_of_getElem? (i := 783) (by decide +kernel), List.mem_of_getElem? (i := 77) (by decide +kernel), by decide +kernel, by decide +kernel, by decide +kernel, by decide⟩, List.mem_of_getElem? (i := 781) (by decide +kernel), List.mem_of_getElem? (i := 782) (by decide +kernel)⟩
theorem kX5_mix : MV mX5_mix 1 := ⟨⟨List.mem_of_getElem? (i := 796) (by decide +kernel), List.mem_of_getElem? (i := 77) (by decide +kernel), by decide +kernel, by decide +kernel, by decide +kernel, by decide⟩, List.mem_of_getElem? (i := 795) (by decide +kernel), List.mem_of_getElem? (i := 68) (by decide +kernel)⟩
theorem kX5_mixPlans : MV mX5_mixPlans 1 := ⟨⟨List.mem_of_getElem? (i := 805) (by decide +kernel), List.mem_of_getElem? (i := 77) (by decide +kernel), by decide +kernel, by decide +kernel, by decide +kernel, by decide⟩, List.mem_of_getElem? (i := 804) (by decide +kernel), List.mem_of_getElem? (i := 70) (by decide +kernel)⟩
theorem kX5_mixField : MV mX5_mixField 0 := ⟨⟨List.mem_of_getElem? (i := 801) (by decide +kernel), List.mem_of_getElem? (i := 77) (by decide +kernel), by decide +kernel, by decide +kernel, by decide +kernel, by decide⟩, List.mem_of_getElem? (i := 800) (by decide +kernel), List.mem_of_getElem? (i := 69) (by decide +kernel)⟩
theorem kX5_digest : MV mX5_digest 0 := ⟨⟨List.mem_of_getElem? (i := 791) (by decide +kernel), List.mem_of_getElem? (i := 77) (by decide +kernel), by decide +kernel, by decide +kernel, by decide +kernel, by decide⟩, List.mem_of_getElem? (i := 789) (by decide +kernel), List.mem_of_getElem? (i := 790) (by decide +kernel)⟩
theorem kJ6_bitCount_0f7a4 : MS mJ6_bitCount_0f7a4 1 := ⟨⟨List.mem_of_getElem? (i := 490) (by decide +kernel), List.mem_of_getElem? (i := 80) (by decide +kernel), by decide +kernel, by decide +kernel, by decide +kernel, by decide⟩, List.mem_of_getElem? (i := 489) (by decide +kernel)⟩
theorem kJ9_max_7cf53 : MS mJ9_max_7cf53 2 := ⟨⟨List.mem_of_getElem? (i := 406) (by decide +kernel), List.mem_of_getElem? (i := 78) (by decide +kernel), by decide +kernel, by decide +kernel, by decide +kernel, by decide⟩, List.mem_of_getElem? (i := 405) (by decide +kernel)⟩
theorem kJ9_min_7cf53 : MS mJ9_min_7cf53 2 := ⟨⟨List.mem_of_getElem? (i := 270) (by decide +kernel), List.mem_of_getElem? (i := 78) (by decide +kernel), by decide +kernel, by decide +kernel, by decide +kernel, by decide⟩, List.mem_of_getElem? (i := 269) (by decide +kernel)⟩
theorem kJ7_fill_53178 : MS mJ7_fill_53178 2 := ⟨⟨List.mem_of_getElem? (i := 281) (by decide +kernel), List.mem_of_getElem? (i := 79) (by decide +kernel), by decide +kernel, by decide +kernel, by decide +kernel, by decide⟩, List.mem_of_getElem? (i := 280) (by decide +kernel)⟩
theorem lL_13 : LK RL 13 yX4_letter := Or.inl (List.mem_of_getElem? (i := 223) (by decide +kernel))
theorem lX4_34 : LK RX4 34 yX0_append := Or.inr ⟨"AimDesk", List.mem_of_getElem? (i := 227) (by decide +kernel)⟩
theorem lL_18 : LK RL 18 yX4_blank := Or.inl (List.mem_of_getElem? (i := 231) (by decide +kernel))
theorem lL_23 : LK RL 23 yX4_fault := Or.inl (List.mem_of_getElem? (i := 235) (by decide +kernel))
theorem lX4_38 : LK RX4 38 yX0_firstFault := Or.inr ⟨"AimDesk", List.mem_of_getElem? (i := 239) (by decide +kernel)⟩
theorem lX0_23 : LK RX0 23 yX0_fits := Or.inl (List.mem_of_getElem? (i := 243) (by decide +kernel))
theorem lX0_19 : LK RX0 19 yX0_codeAt := Or.inl (List.mem_of_getElem? (i := 247) (by decide +kernel))
theorem lL_27 : LK RL 27 yX4_field := Or.inl (List.mem_of_getElem? (i := 251) (by decide +kernel))
theorem lX4_42 : LK RX4 42 yX0_isField := Or.inr ⟨"AimDesk", List.mem_of_getElem? (i := 255) (by decide +kernel)⟩
theorem lX0_27 : LK RX0 27 yX0_firstFault := Or.inl (List.mem_of_getElem? (i := 259) (by decide +kernel))
theorem lX4_46 : LK RX4 46 yX3_read := Or.inr ⟨"AimDesk", List.mem_of_getElem? (i := 260) (by decide +kernel)⟩
theorem lX3_44 : LK RX3 44 yX0_figureAt := Or.inr ⟨"AimDesk", List.mem_of_getElem? (i := 264) (by decide +kernel)⟩
theorem lX3_50 : LK RX3 50 yJ9_min_7cf53 := Or.inl (List.mem_of_getElem? (i := 268) (by decide +kernel))
theorem lX3_61 : LK RX3 61 yX3_lightAt := Or.inl (List.mem_of_getElem? (i := 271) (by decide +kernel))
theorem lX3_74 : LK RX3 74 yX3_hasPatch := Or.inl (List.mem_of_getElem? (i := 275) (by decide +kernel))
theorem lX3_65 : LK RX3 65 yJ7_fill_53178 := Or.inl (List.mem_of_getElem? (i := 279) (by decide +kernel))
theorem lX3_71 : LK RX3 71 yX3_measureSlack := Or.inl (List.mem_of_getElem? (i := 282) (by decide +kernel))
theorem lX4_50 : LK RX4 50 yX2_forget := Or.inr ⟨"AimDesk", List.mem_of_getElem? (i := 286) (by decide +kernel)⟩
theorem lL_31 : LK RL 31 yX4_ceiling := Or.inl (List.mem_of_getElem? (i := 290) (by decide +kernel))
theorem lX4_59 : LK RX4 59 yX3_hasPatch := Or.inr ⟨"AimDesk", List.mem_of_getElem? (i := 294) (by decide +kernel)⟩
theorem lX4_67 : LK RX4 67 yX3_measureSlack := Or.inr ⟨"AimDesk", List.mem_of_getElem? (i := 295) (by decide +kernel)⟩
theorem lL_36 : LK RL 36 yX4_shade := Or.inl (List.mem_of_getElem? (i := 296) (by decide +kernel))
theorem lX4_70 : LK RX4 70 yX3_isRead := Or.inr ⟨"AimDesk", List.mem_of_getElem? (i := 300) (by decide +kernel)⟩
theorem lL_40 : LK RL 40 yX4_stuck := Or.inl (List.mem_of_getElem? (i := 304) (by decide +kernel))
theorem lX4_76 : LK RX4 76 yX3_hasMirror := Or.inr ⟨"AimDesk", List.mem_of_getElem? (i := 308) (by decide +kernel)⟩
theorem lX4_82 : LK RX4 82 yX4_bit := Or.inl (List.mem_of_getElem? (i := 312) (by decide +kernel))
theorem lL_45 : LK RL 45 yX4_aim := Or.inl (List.mem_of_getElem? (i := 315) (by decide +kernel))
theorem lX4_86 : LK RX4 86 yX3_isStuck := Or.inr ⟨"AimDesk", List.mem_of_getElem? (i := 319) (by decide +kernel)⟩
theorem lX3_37 : LK RX3 37 yX4_bit := Or.inr ⟨"AimDesk", List.mem_of_getElem? (i := 323) (by decide +kernel)⟩
theorem lX4_92 : LK RX4 92 yX3_heats := Or.inr ⟨"AimDesk", List.mem_of_getElem? (i := 324) (by decide +kernel)⟩
theorem lX3_85 : LK RX3 85 yX3_heatsWithout := Or.inl (List.mem_of_getElem? (i := 328) (by decide +kernel))
theorem lX3_88 : LK RX3 88 yX3_light := Or.inl (List.mem_of_getElem? (i := 332) (by decide +kernel))
theorem lX3_78 : LK RX3 78 yX3_hasMirror := Or.inl (List.mem_of_getElem? (i := 336) (by decide +kernel))
theorem lX4_95 : LK RX4 95 yX3_isSafe := Or.inr ⟨"AimDesk", List.mem_of_getElem? (i := 337) (by decide +kernel)⟩
theorem lL_49 : LK RL 49 yX4_mirror := Or.inl (List.mem_of_getElem? (i := 342) (by decide +kernel))
theorem lX4_107 : LK RX4 107 yX3_isShaded := Or.inr ⟨"AimDesk", List.mem_of_getElem? (i := 346) (by decide +kernel)⟩
theorem lX4_110 : LK RX4 110 yX3_light := Or.inr ⟨"AimDesk", List.mem_of_getElem? (i := 350) (by decide +kernel)⟩
theorem lX4_113 : LK RX4 113 yX4_sum := Or.inl (List.mem_of_getElem? (i := 351) (by decide +kernel))
theorem lX4_117 : LK RX4 117 yX4_heatOf := Or.inl (List.mem_of_getElem? (i := 354) (by decide +kernel))
theorem lL_53 : LK RL 53 yX4_patch := Or.inl (List.mem_of_getElem? (i := 357) (by decide +kernel))
theorem lX4_120 : LK RX4 120 yX3_heatsWithout := Or.inr ⟨"AimDesk", List.mem_of_getElem? (i := 361) (by decide +kernel)⟩
theorem lX4_123 : LK RX4 123 yX3_aimingAt := Or.inr ⟨"AimDesk", List.mem_of_getElem? (i := 362) (by decide +kernel)⟩
theorem lL_57 : LK RL 57 yX4_best := Or.inl (List.mem_of_getElem? (i := 366) (by decide +kernel))
theorem lX4_126 : LK RX4 126 yX2_planWithBest := Or.inr ⟨"AimDesk", List.mem_of_getElem? (i := 370) (by decide +kernel)⟩
theorem lX2_34 : LK RX2 34 yX2_findBest := Or.inl (List.mem_of_getElem? (i := 374) (by decide +kernel))
theorem lX2_41 : LK RX2 41 yJ7_fill_53178 := Or.inl (List.mem_of_getElem? (i := 378) (by decide +kernel))
theorem lX2_54 : LK RX2 54 yX2_openFrom := Or.inl (List.mem_of_getElem? (i := 379) (by decide +kernel))
theorem lX2_58 : LK RX2 58 yX3_isSafe := Or.inr ⟨"AimDesk", List.mem_of_getElem? (i := 382) (by decide +kernel)⟩
theorem lX2_64 : LK RX2 64 yX3_hasMirror := Or.inr ⟨"AimDesk", List.mem_of_getElem? (i := 383) (by decide +kernel)⟩
theorem lX2_67 : LK RX2 67 yX2_open := Or.inl (List.mem_of_getElem? (i := 384) (by decide +kernel))
theorem lX2_71 : LK RX2 71 yX3_isShaded := Or.inr ⟨"AimDesk", List.mem_of_getElem? (i := 387) (by decide +kernel)⟩
theorem lX2_77 : LK RX2 77 yX3_isStuck := Or.inr ⟨"AimDesk", List.mem_of_getElem? (i := 388) (by decide +kernel)⟩
theorem lX2_83 : LK RX2 83 yX3_light := Or.inr ⟨"AimDesk", List.mem_of_getElem? (i := 389) (by decide +kernel)⟩
theorem lX2_90 : LK RX2 90 yX4_sum := Or.inr ⟨"AimDesk", List.mem_of_getElem? (i := 390) (by decide +kernel)⟩
theorem lX4_135 : LK RX4 135 yX3_bound := Or.inr ⟨"AimDesk", List.mem_of_getElem? (i := 393) (by decide +kernel)⟩
theorem lX3_91 : LK RX3 91 yX3_isShaded := Or.inl (List.mem_of_getElem? (i := 397) (by decide +kernel))
theorem lX3_94 : LK RX3 94 yX3_isStuck := Or.inl (List.mem_of_getElem? (i := 398) (by decide +kernel))
theorem lX3_97 : LK RX3 97 yX4_sum := Or.inr ⟨"AimDesk", List.mem_of_getElem? (i := 399) (by decide +kernel)⟩
theorem lX3_100 : LK RX3 100 yX3_mostLight := Or.inl (List.mem_of_getElem? (i := 400) (by decide +kernel))
theorem lX3_103 : LK RX3 103 yJ9_max_7cf53 := Or.inl (List.mem_of_getElem? (i := 404) (by decide +kernel))
theorem lX4_141 : LK RX4 141 yX4_aimIn := Or.inl (List.mem_of_getElem? (i := 407) (by decide +kernel))
theorem lL_62 : LK RL 62 yX4_change := Or.inl (List.mem_of_getElem? (i := 410) (by decide +kernel))
theorem lX4_144 : LK RX4 144 yX2_planWithChange := Or.inr ⟨"AimDesk", List.mem_of_getElem? (i := 414) (by decide +kernel)⟩
theorem lX2_38 : LK RX2 38 yX2_findChange := Or.inl (List.mem_of_getElem? (i := 418) (by decide +kernel))
theorem lX2_100 : LK RX2 100 yX3_placeNow := Or.inr ⟨"AimDesk", List.mem_of_getElem? (i := 422) (by decide +kernel)⟩
theorem lX2_104 : LK RX2 104 yX2_setWay := Or.inl (List.mem_of_getElem? (i := 427) (by decide +kernel))
theorem lX2_111 : LK RX2 111 yX2_wayFrom := Or.inl (List.mem_of_getElem? (i := 431) (by decide +kernel))
theorem lX2_114 : LK RX2 114 yX2_widen := Or.inl (List.mem_of_getElem? (i := 435) (by decide +kernel))
theorem lX2_122 : LK RX2 122 yX2_markBeside := Or.inl (List.mem_of_getElem? (i := 439) (by decide +kernel))
theorem lX2_118 : LK RX2 118 yX2_noteMoves := Or.inl (List.mem_of_getElem? (i := 443) (by decide +kernel))
theorem lX2_132 : LK RX2 132 yJ9_min_7cf53 := Or.inl (List.mem_of_getElem? (i := 447) (by decide +kernel))
theorem lX2_137 : LK RX2 137 yX2_leastMove := Or.inl (List.mem_of_getElem? (i := 448) (by decide +kernel))
theorem lX2_141 : LK RX2 141 yX4_aimIn := Or.inr ⟨"AimDesk", List.mem_of_getElem? (i := 452) (by decide +kernel)⟩
theorem lX4_150 : LK RX4 150 yX1_moveAt := Or.inr ⟨"AimDesk", List.mem_of_getElem? (i := 453) (by decide +kernel)⟩
theorem lL_66 : LK RL 66 yX4_go := Or.inl (List.mem_of_getElem? (i := 457) (by decide +kernel))
theorem lL_71 : LK RL 71 yX4_trade := Or.inl (List.mem_of_getElem? (i := 461) (by decide +kernel))
theorem lX4_153 : LK RX4 153 yX3_bestTrade := Or.inr ⟨"AimDesk", List.mem_of_getElem? (i := 465) (by decide +kernel)⟩
theorem lX3_109 : LK RX3 109 yX3_heats := Or.inl (List.mem_of_getElem? (i := 469) (by decide +kernel))
theorem lX3_113 : LK RX3 113 yX3_heatsByTrade := Or.inl (List.mem_of_getElem? (i := 470) (by decide +kernel))
theorem lX3_119 : LK RX3 119 yX3_swapAims := Or.inl (List.mem_of_getElem? (i := 474) (by decide +kernel))
theorem lX3_116 : LK RX3 116 yX3_isSafe := Or.inl (List.mem_of_getElem? (i := 478) (by decide +kernel))
theorem lX4_156 : LK RX4 156 yX3_heatsByTrade := Or.inr ⟨"AimDesk", List.mem_of_getElem? (i := 479) (by decide +kernel)⟩
theorem lL_75 : LK RL 75 yX4_relief := Or.inl (List.mem_of_getElem? (i := 480) (by decide +kernel))
theorem lX4_159 : LK RX4 159 yX3_bestRelief := Or.inr ⟨"AimDesk", List.mem_of_getElem? (i := 484) (by decide +kernel)⟩
theorem lX3_123 : LK RX3 123 yJ6_bitCount_0f7a4 := Or.inl (List.mem_of_getElem? (i := 488) (by decide +kernel))
theorem lL_79 : LK RL 79 yX4_count := Or.inl (List.mem_of_getElem? (i := 494) (by decide +kernel))
theorem lL_83 : LK RL 83 yX4_digest := Or.inl (List.mem_of_getElem? (i := 498) (by decide +kernel))
theorem lX4_167 : LK RX4 167 yX4_digestOfParts := Or.inl (List.mem_of_getElem? (i := 503) (by decide +kernel))
theorem lX4_192 : LK RX4 192 yX4_mirror := Or.inl (List.mem_of_getElem? (i := 508) (by decide +kernel))
theorem lX4_195 : LK RX4 195 yX4_patch := Or.inl (List.mem_of_getElem? (i := 509) (by decide +kernel))
theorem lX4_173 : LK RX4 173 yX4_best := Or.inl (List.mem_of_getElem? (i := 510) (by decide +kernel))
theorem lX4_177 : LK RX4 177 yX4_change := Or.inl (List.mem_of_getElem? (i := 511) (by decide +kernel))
theorem lX4_180 : LK RX4 180 yX4_trade := Or.inl (List.mem_of_getElem? (i := 512) (by decide +kernel))
theorem lX4_183 : LK RX4 183 yX4_relief := Or.inl (List.mem_of_getElem? (i := 513) (by decide +kernel))
theorem lX4_186 : LK RX4 186 yX0_codeAt := Or.inr ⟨"AimDesk", List.mem_of_getElem? (i := 514) (by decide +kernel)⟩
theorem lX4_189 : LK RX4 189 yX4_count := Or.inl (List.mem_of_getElem? (i := 515) (by decide +kernel))
theorem lL_17 : LK RL 17 yX5_letter := Or.inl (List.mem_of_getElem? (i := 596) (by decide +kernel))
theorem lX5_41 : LK RX5 41 yX5_within := Or.inl (List.mem_of_getElem? (i := 600) (by decide +kernel))
theorem lL_22 : LK RL 22 yX5_blank := Or.inl (List.mem_of_getElem? (i := 603) (by decide +kernel))
theorem lL_26 : LK RL 26 yX5_fault := Or.inl (List.mem_of_getElem? (i := 607) (by decide +kernel))
theorem lX5_53 : LK RX5 53 yX5_rightLetters := Or.inl (List.mem_of_getElem? (i := 611) (by decide +kernel))
theorem lX5_49 : LK RX5 49 yX5_isRight := Or.inl (List.mem_of_getElem? (i := 615) (by decide +kernel))
theorem lL_30 : LK RL 30 yX5_field := Or.inl (List.mem_of_getElem? (i := 619) (by decide +kernel))
theorem lL_35 : LK RL 35 yX5_ceiling := Or.inl (List.mem_of_getElem? (i := 623) (by decide +kernel))
theorem lX5_84 : LK RX5 84 yX5_isPatch := Or.inl (List.mem_of_getElem? (i := 627) (by decide +kernel))
theorem lL_39 : LK RL 39 yX5_shade := Or.inl (List.mem_of_getElem? (i := 631) (by decide +kernel))
theorem lL_44 : LK RL 44 yX5_stuck := Or.inl (List.mem_of_getElem? (i := 635) (by decide +kernel))
theorem lX5_87 : LK RX5 87 yX5_isMirror := Or.inl (List.mem_of_getElem? (i := 639) (by decide +kernel))
theorem lL_48 : LK RL 48 yX5_aim := Or.inl (List.mem_of_getElem? (i := 643) (by decide +kernel))
theorem lX5_90 : LK RX5 90 yX5_asTheyAre := Or.inl (List.mem_of_getElem? (i := 647) (by decide +kernel))
theorem lX5_76 : LK RX5 76 yX5_has := Or.inl (List.mem_of_getElem? (i := 651) (by decide +kernel))
theorem lX5_93 : LK RX5 93 yX5_isGood := Or.inl (List.mem_of_getElem? (i := 654) (by decide +kernel))
theorem lX5_80 : LK RX5 80 yX5_heatAt := Or.inl (List.mem_of_getElem? (i := 658) (by decide +kernel))
theorem lX5_72 : LK RX5 72 yX5_gives := Or.inl (List.mem_of_getElem? (i := 662) (by decide +kernel))
theorem lL_52 : LK RL 52 yX5_mirror := Or.inl (List.mem_of_getElem? (i := 666) (by decide +kernel))
theorem lX5_104 : LK RX5 104 yX5_ofMirror := Or.inl (List.mem_of_getElem? (i := 670) (by decide +kernel))
theorem lX5_100 : LK RX5 100 yX5_givesAll := Or.inl (List.mem_of_getElem? (i := 674) (by decide +kernel))
theorem lL_56 : LK RL 56 yX5_patch := Or.inl (List.mem_of_getElem? (i := 678) (by decide +kernel))
theorem lX5_111 : LK RX5 111 yX5_ofPatch := Or.inl (List.mem_of_getElem? (i := 682) (by decide +kernel))
theorem lX5_107 : LK RX5 107 yX5_aimedAt := Or.inl (List.mem_of_getElem? (i := 686) (by decide +kernel))
theorem lL_61 : LK RL 61 yX5_best := Or.inl (List.mem_of_getElem? (i := 690) (by decide +kernel))
theorem lX5_134 : LK RX5 134 yX5_layBest := Or.inl (List.mem_of_getElem? (i := 694) (by decide +kernel))
theorem lX5_120 : LK RX5 120 yX5_layCode := Or.inl (List.mem_of_getElem? (i := 698) (by decide +kernel))
theorem lX5_124 : LK RX5 124 yX5_areThere := Or.inl (List.mem_of_getElem? (i := 702) (by decide +kernel))
theorem lX5_128 : LK RX5 128 yX5_caught := Or.inl (List.mem_of_getElem? (i := 706) (by decide +kernel))
theorem lX5_138 : LK RX5 138 yX5_bestNow := Or.inl (List.mem_of_getElem? (i := 710) (by decide +kernel))
theorem lX5_131 : LK RX5 131 yX5_boundNow := Or.inl (List.mem_of_getElem? (i := 714) (by decide +kernel))
theorem lL_65 : LK RL 65 yX5_change := Or.inl (List.mem_of_getElem? (i := 718) (by decide +kernel))
theorem lX5_162 : LK RX5 162 yX5_layChange := Or.inl (List.mem_of_getElem? (i := 722) (by decide +kernel))
theorem lX5_147 : LK RX5 147 yX5_layFar := Or.inl (List.mem_of_getElem? (i := 726) (by decide +kernel))
theorem lX5_141 : LK RX5 141 yX5_unitOf := Or.inl (List.mem_of_getElem? (i := 730) (by decide +kernel))
theorem lX5_144 : LK RX5 144 yX5_figure := Or.inl (List.mem_of_getElem? (i := 734) (by decide +kernel))
theorem lX5_150 : LK RX5 150 yX5_codeNow := Or.inl (List.mem_of_getElem? (i := 737) (by decide +kernel))
theorem lX5_156 : LK RX5 156 yX5_moveFrom := Or.inl (List.mem_of_getElem? (i := 741) (by decide +kernel))
theorem lX5_159 : LK RX5 159 yX5_moved := Or.inl (List.mem_of_getElem? (i := 745) (by decide +kernel))
theorem lX5_165 : LK RX5 165 yX5_changeNow := Or.inl (List.mem_of_getElem? (i := 749) (by decide +kernel))
theorem lL_70 : LK RL 70 yX5_go := Or.inl (List.mem_of_getElem? (i := 753) (by decide +kernel))
theorem lL_74 : LK RL 74 yX5_trade := Or.inl (List.mem_of_getElem? (i := 757) (by decide +kernel))
theorem lX5_177 : LK RX5 177 yX5_layTrade := Or.inl (List.mem_of_getElem? (i := 761) (by decide +kernel))
theorem lX5_180 : LK RX5 180 yX5_tradeNow := Or.inl (List.mem_of_getElem? (i := 765) (by decide +kernel))
theorem lL_78 : LK RL 78 yX5_relief := Or.inl (List.mem_of_getElem? (i := 769) (by decide +kernel))
theorem lX5_186 : LK RX5 186 yX5_reliefNow := Or.inl (List.mem_of_getElem? (i := 773) (by decide +kernel))
theorem lX5_183 : LK RX5 183 yX5_ones := Or.inl (List.mem_of_getElem? (i := 777) (by decide +kernel))
theorem lL_82 : LK RL 82 yX5_count := Or.inl (List.mem_of_getElem? (i := 780) (by decide +kernel))
theorem lX5_189 : LK RX5 189 yX5_howMany := Or.inl (List.mem_of_getElem? (i := 784) (by decide +kernel))
theorem lL_87 : LK RL 87 yX5_digest := Or.inl (List.mem_of_getElem? (i := 788) (by decide +kernel))
theorem lX5_198 : LK RX5 198 yX5_mix := Or.inl (List.mem_of_getElem? (i := 793) (by decide +kernel))
theorem lX5_207 : LK RX5 207 yX5_mixField := Or.inl (List.mem_of_getElem? (i := 798) (by decide +kernel))
theorem lX5_202 : LK RX5 202 yX5_mixPlans := Or.inl (List.mem_of_getElem? (i := 802) (by decide +kernel))
theorem pX3_84 : Cond.constant RX3 84 (-2139062144) ∈ lw_tbl := List.mem_of_getElem? (i := 341) (by decide +kernel)
theorem pJ6_265 : Cond.constant RJ6 265 (1431655765) ∈ lw_tbl := List.mem_of_getElem? (i := 491) (by decide +kernel)
theorem pJ6_266 : Cond.constant RJ6 266 (858993459) ∈ lw_tbl := List.mem_of_getElem? (i := 492) (by decide +kernel)
theorem pJ6_267 : Cond.constant RJ6 267 (252645135) ∈ lw_tbl := List.mem_of_getElem? (i := 493) (by decide +kernel)
theorem pX4_165 : Cond.constantLong RX4 165 (1733) ∈ lw_tbl := List.mem_of_getElem? (i := 502) (by decide +kernel)
theorem pX4_171 : Cond.constantLong RX4 171 (31) ∈ lw_tbl := List.mem_of_getElem? (i := 507) (by decide +kernel)
theorem pX5_205 : Cond.constantLong RX5 205 (1733) ∈ lw_tbl := List.mem_of_getElem? (i := 792) (by decide +kernel)
theorem pX5_192 : Cond.constantLong RX5 192 (31) ∈ lw_tbl := List.mem_of_getElem? (i := 797) (by decide +kernel)
theorem mmX3_50 : MM RX3 50 Lib.Math.min.name Lib.Math.min.code := ⟨List.mem_of_getElem? (i := 268) (by decide +kernel), List.mem_of_getElem? (i := 269) (by decide +kernel), List.mem_of_getElem? (i := 78) (by decide +kernel), List.mem_of_getElem? (i := 270) (by decide +kernel)⟩
theorem mmX3_103 : MM RX3 103 Lib.Math.max.name Lib.Math.max.code := ⟨List.mem_of_getElem? (i := 404) (by decide +kernel), List.mem_of_getElem? (i := 405) (by decide +kernel), List.mem_of_getElem? (i := 78) (by decide +kernel), List.mem_of_getElem? (i := 406) (by decide +kernel)⟩
theorem mmX2_132 : MM RX2 132 Lib.Math.min.name Lib.Math.min.code := ⟨List.mem_of_getElem? (i := 447) (by decide +kernel), List.mem_of_getElem? (i := 269) (by decide +kernel), List.mem_of_getElem? (i := 78) (by decide +kernel), List.mem_of_getElem? (i := 270) (by decide +kernel)⟩
