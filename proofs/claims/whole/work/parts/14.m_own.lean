theorem hd_X10_areCounts : yX10_areCounts.cls ≠ "java/lang/invoke/MethodHandle" ∧ yX10_areCounts.cls ≠ "java/lang/invoke/VarHandle" ∧ (parseMethodDescriptor yX10_areCounts.desc).map (fun d => d.parameters.length) = some 3 := by decide +kernel
theorem hd_X10_draftFewest : yX10_draftFewest.cls = RX10 ∧ yX10_draftFewest.cls ≠ "java/lang/invoke/MethodHandle" ∧ yX10_draftFewest.cls ≠ "java/lang/invoke/VarHandle" ∧ (parseMethodDescriptor yX10_draftFewest.desc).map (fun d => d.parameters.length) = some 1 := by decide +kernel
theorem hd_X10_forgetPatterns : yX10_forgetPatterns.cls = RX10 ∧ yX10_forgetPatterns.cls ≠ "java/lang/invoke/MethodHandle" ∧ yX10_forgetPatterns.cls ≠ "java/lang/invoke/VarHandle" ∧ (parseMethodDescriptor yX10_forgetPatterns.desc).map (fun d => d.parameters.length) = some 0 := by decide +kernel
theorem hd_X10_isWantedWithoutRoom : yX10_isWantedWithoutRoom.cls = RX10 ∧ yX10_isWantedWithoutRoom.cls ≠ "java/lang/invoke/MethodHandle" ∧ yX10_isWantedWithoutRoom.cls ≠ "java/lang/invoke/VarHandle" ∧ (parseMethodDescriptor yX10_isWantedWithoutRoom.desc).map (fun d => d.parameters.length) = some 0 := by decide +kernel
theorem hd_X10_movesOfAll : yX10_movesOfAll.cls = RX10 ∧ yX10_movesOfAll.cls ≠ "java/lang/invoke/MethodHandle" ∧ yX10_movesOfAll.cls ≠ "java/lang/invoke/VarHandle" ∧ (parseMethodDescriptor yX10_movesOfAll.desc).map (fun d => d.parameters.length) = some 0 := by decide +kernel
theorem hd_X10_movesTo : yX10_movesTo.cls = RX10 ∧ yX10_movesTo.cls ≠ "java/lang/invoke/MethodHandle" ∧ yX10_movesTo.cls ≠ "java/lang/invoke/VarHandle" ∧ (parseMethodDescriptor yX10_movesTo.desc).map (fun d => d.parameters.length) = some 1 := by decide +kernel
theorem hd_X10_piecesBeyond : yX10_piecesBeyond.cls = RX10 ∧ yX10_piecesBeyond.cls ≠ "java/lang/invoke/MethodHandle" ∧ yX10_piecesBeyond.cls ≠ "java/lang/invoke/VarHandle" ∧ (parseMethodDescriptor yX10_piecesBeyond.desc).map (fun d => d.parameters.length) = some 0 := by decide +kernel
theorem hd_X10_piecesMissing : yX10_piecesMissing.cls = RX10 ∧ yX10_piecesMissing.cls ≠ "java/lang/invoke/MethodHandle" ∧ yX10_piecesMissing.cls ≠ "java/lang/invoke/VarHandle" ∧ (parseMethodDescriptor yX10_piecesMissing.desc).map (fun d => d.parameters.length) = some 0 := by decide +kernel
theorem hd_X10_refusalOfCut : yX10_refusalOfCut.cls = RX10 ∧ yX10_refusalOfCut.cls ≠ "java/lang/invoke/MethodHandle" ∧ yX10_refusalOfCut.cls ≠ "java/lang/invoke/VarHandle" ∧ (parseMethodDescriptor yX10_refusalOfCut.desc).map (fun d => d.parameters.length) = some 3 := by decide +kernel
theorem hd_X10_wasteOfAll : yX10_wasteOfAll.cls = RX10 ∧ yX10_wasteOfAll.cls ≠ "java/lang/invoke/MethodHandle" ∧ yX10_wasteOfAll.cls ≠ "java/lang/invoke/VarHandle" ∧ (parseMethodDescriptor yX10_wasteOfAll.desc).map (fun d => d.parameters.length) = some 0 := by decide +kernel
theorem hd_X10_worthiest : yX10_worthiest.cls = RX10 ∧ yX10_worthiest.cls ≠ "java/lang/invoke/MethodHandle" ∧ yX10_worthiest.cls ≠ "java/lang/invoke/VarHandle" ∧ (parseMethodDescriptor yX10_worthiest.desc).map (fun d => d.parameters.length) = some 0 := by decide +kernel
theorem hd_X1_copyFrom : yX1_copyFrom.cls = RX1 ∧ yX1_copyFrom.cls ≠ "java/lang/invoke/MethodHandle" ∧ yX1_copyFrom.cls ≠ "java/lang/invoke/VarHandle" ∧ (parseMethodDescriptor yX1_copyFrom.desc).map (fun d => d.parameters.length) = some 1 := by decide +kernel
theorem hd_X1_lay : yX1_lay.cls = RX1 ∧ yX1_lay.cls ≠ "java/lang/invoke/MethodHandle" ∧ yX1_lay.cls ≠ "java/lang/invoke/VarHandle" ∧ (parseMethodDescriptor yX1_lay.desc).map (fun d => d.parameters.length) = some 2 := by decide +kernel
theorem hd_X1_movesFrom : yX1_movesFrom.cls = RX1 ∧ yX1_movesFrom.cls ≠ "java/lang/invoke/MethodHandle" ∧ yX1_movesFrom.cls ≠ "java/lang/invoke/VarHandle" ∧ (parseMethodDescriptor yX1_movesFrom.desc).map (fun d => d.parameters.length) = some 1 := by decide +kernel
theorem hd_X2_lost : yX2_lost.cls = RX2 ∧ yX2_lost.cls ≠ "java/lang/invoke/MethodHandle" ∧ yX2_lost.cls ≠ "java/lang/invoke/VarHandle" ∧ (parseMethodDescriptor yX2_lost.desc).map (fun d => d.parameters.length) = some 0 := by decide +kernel
theorem hd_X3_setFromLatest : yX3_setFromLatest.cls = RX3 ∧ yX3_setFromLatest.cls ≠ "java/lang/invoke/MethodHandle" ∧ yX3_setFromLatest.cls ≠ "java/lang/invoke/VarHandle" ∧ (parseMethodDescriptor yX3_setFromLatest.desc).map (fun d => d.parameters.length) = some 2 := by decide +kernel
theorem hd_X3_setStep : yX3_setStep.cls = RX3 ∧ yX3_setStep.cls ≠ "java/lang/invoke/MethodHandle" ∧ yX3_setStep.cls ≠ "java/lang/invoke/VarHandle" ∧ (parseMethodDescriptor yX3_setStep.desc).map (fun d => d.parameters.length) = some 3 := by decide +kernel
theorem hd_X3_slotAt : yX3_slotAt.cls = RX3 ∧ yX3_slotAt.cls ≠ "java/lang/invoke/MethodHandle" ∧ yX3_slotAt.cls ≠ "java/lang/invoke/VarHandle" ∧ (parseMethodDescriptor yX3_slotAt.desc).map (fun d => d.parameters.length) = some 1 := by decide +kernel
theorem hd_X3_solve : yX3_solve.cls = RX3 ∧ yX3_solve.cls ≠ "java/lang/invoke/MethodHandle" ∧ yX3_solve.cls ≠ "java/lang/invoke/VarHandle" ∧ (parseMethodDescriptor yX3_solve.desc).map (fun d => d.parameters.length) = some 0 := by decide +kernel
theorem hd_X3_start : yX3_start.cls = RX3 ∧ yX3_start.cls ≠ "java/lang/invoke/MethodHandle" ∧ yX3_start.cls ≠ "java/lang/invoke/VarHandle" ∧ (parseMethodDescriptor yX3_start.desc).map (fun d => d.parameters.length) = some 1 := by decide +kernel
theorem hd_X4_addWidth : yX4_addWidth.cls = RX4 ∧ yX4_addWidth.cls ≠ "java/lang/invoke/MethodHandle" ∧ yX4_addWidth.cls ≠ "java/lang/invoke/VarHandle" ∧ (parseMethodDescriptor yX4_addWidth.desc).map (fun d => d.parameters.length) = some 1 := by decide +kernel
theorem hd_X4_become : yX4_become.cls = RX4 ∧ yX4_become.cls ≠ "java/lang/invoke/MethodHandle" ∧ yX4_become.cls ≠ "java/lang/invoke/VarHandle" ∧ (parseMethodDescriptor yX4_become.desc).map (fun d => d.parameters.length) = some 3 := by decide +kernel
theorem hd_X4_fitsFlawed : yX4_fitsFlawed.cls = RX4 ∧ yX4_fitsFlawed.cls ≠ "java/lang/invoke/MethodHandle" ∧ yX4_fitsFlawed.cls ≠ "java/lang/invoke/VarHandle" ∧ (parseMethodDescriptor yX4_fitsFlawed.desc).map (fun d => d.parameters.length) = some 1 := by decide +kernel
theorem hd_X4_hasWidthOf : yX4_hasWidthOf.cls = RX4 ∧ yX4_hasWidthOf.cls ≠ "java/lang/invoke/MethodHandle" ∧ yX4_hasWidthOf.cls ≠ "java/lang/invoke/VarHandle" ∧ (parseMethodDescriptor yX4_hasWidthOf.desc).map (fun d => d.parameters.length) = some 1 := by decide +kernel
theorem hd_X4_isWidth : yX4_isWidth.cls = RX4 ∧ yX4_isWidth.cls ≠ "java/lang/invoke/MethodHandle" ∧ yX4_isWidth.cls ≠ "java/lang/invoke/VarHandle" ∧ (parseMethodDescriptor yX4_isWidth.desc).map (fun d => d.parameters.length) = some 1 := by decide +kernel
theorem hd_X4_wasteOf : yX4_wasteOf.cls = RX4 ∧ yX4_wasteOf.cls ≠ "java/lang/invoke/MethodHandle" ∧ yX4_wasteOf.cls ≠ "java/lang/invoke/VarHandle" ∧ (parseMethodDescriptor yX4_wasteOf.desc).map (fun d => d.parameters.length) = some 1 := by decide +kernel
theorem hd_X4_widest : yX4_widest.cls = RX4 ∧ yX4_widest.cls ≠ "java/lang/invoke/MethodHandle" ∧ yX4_widest.cls ≠ "java/lang/invoke/VarHandle" ∧ (parseMethodDescriptor yX4_widest.desc).map (fun d => d.parameters.length) = some 0 := by decide +kernel
theorem hd_X5_forget : yX5_forget.cls = RX5 ∧ yX5_forget.cls ≠ "java/lang/invoke/MethodHandle" ∧ yX5_forget.cls ≠ "java/lang/invoke/VarHandle" ∧ (parseMethodDescriptor yX5_forget.desc).map (fun d => d.parameters.length) = some 0 := by decide +kernel
theorem hd_X5_isOverfull : yX5_isOverfull.cls = RX5 ∧ yX5_isOverfull.cls ≠ "java/lang/invoke/MethodHandle" ∧ yX5_isOverfull.cls ≠ "java/lang/invoke/VarHandle" ∧ (parseMethodDescriptor yX5_isOverfull.desc).map (fun d => d.parameters.length) = some 0 := by decide +kernel
theorem hd_X5_numberOf : yX5_numberOf.cls = RX5 ∧ yX5_numberOf.cls ≠ "java/lang/invoke/MethodHandle" ∧ yX5_numberOf.cls ≠ "java/lang/invoke/VarHandle" ∧ (parseMethodDescriptor yX5_numberOf.desc).map (fun d => d.parameters.length) = some 1 := by decide +kernel
theorem hd_X6_addDone : yX6_addDone.cls = RX6 ∧ yX6_addDone.cls ≠ "java/lang/invoke/MethodHandle" ∧ yX6_addDone.cls ≠ "java/lang/invoke/VarHandle" ∧ (parseMethodDescriptor yX6_addDone.desc).map (fun d => d.parameters.length) = some 2 := by decide +kernel
theorem hd_X6_isAnyDone : yX6_isAnyDone.cls = RX6 ∧ yX6_isAnyDone.cls ≠ "java/lang/invoke/MethodHandle" ∧ yX6_isAnyDone.cls ≠ "java/lang/invoke/VarHandle" ∧ (parseMethodDescriptor yX6_isAnyDone.desc).map (fun d => d.parameters.length) = some 0 := by decide +kernel
theorem hd_X6_isAnyOpen : yX6_isAnyOpen.cls = RX6 ∧ yX6_isAnyOpen.cls ≠ "java/lang/invoke/MethodHandle" ∧ yX6_isAnyOpen.cls ≠ "java/lang/invoke/VarHandle" ∧ (parseMethodDescriptor yX6_isAnyOpen.desc).map (fun d => d.parameters.length) = some 0 := by decide +kernel
theorem hd_X6_startOpen : yX6_startOpen.cls = RX6 ∧ yX6_startOpen.cls ≠ "java/lang/invoke/MethodHandle" ∧ yX6_startOpen.cls ≠ "java/lang/invoke/VarHandle" ∧ (parseMethodDescriptor yX6_startOpen.desc).map (fun d => d.parameters.length) = some 0 := by decide +kernel
theorem hd_X6_takeGreedily : yX6_takeGreedily.cls = RX6 ∧ yX6_takeGreedily.cls ≠ "java/lang/invoke/MethodHandle" ∧ yX6_takeGreedily.cls ≠ "java/lang/invoke/VarHandle" ∧ (parseMethodDescriptor yX6_takeGreedily.desc).map (fun d => d.parameters.length) = some 0 := by decide +kernel
theorem hd_X6_worthOf : yX6_worthOf.cls = RX6 ∧ yX6_worthOf.cls ≠ "java/lang/invoke/MethodHandle" ∧ yX6_worthOf.cls ≠ "java/lang/invoke/VarHandle" ∧ (parseMethodDescriptor yX6_worthOf.desc).map (fun d => d.parameters.length) = some 1 := by decide +kernel
theorem hd_X6_worthOfWanted : yX6_worthOfWanted.cls = RX6 ∧ yX6_worthOfWanted.cls ≠ "java/lang/invoke/MethodHandle" ∧ yX6_worthOfWanted.cls ≠ "java/lang/invoke/VarHandle" ∧ (parseMethodDescriptor yX6_worthOfWanted.desc).map (fun d => d.parameters.length) = some 0 := by decide +kernel
theorem hd_X7_firstFrom : yX7_firstFrom.cls = RX7 ∧ yX7_firstFrom.cls ≠ "java/lang/invoke/MethodHandle" ∧ yX7_firstFrom.cls ≠ "java/lang/invoke/VarHandle" ∧ (parseMethodDescriptor yX7_firstFrom.desc).map (fun d => d.parameters.length) = some 2 := by decide +kernel
theorem hd_X7_rollsLeft : yX7_rollsLeft.cls = RX7 ∧ yX7_rollsLeft.cls ≠ "java/lang/invoke/MethodHandle" ∧ yX7_rollsLeft.cls ≠ "java/lang/invoke/VarHandle" ∧ (parseMethodDescriptor yX7_rollsLeft.desc).map (fun d => d.parameters.length) = some 0 := by decide +kernel
theorem hd_X7_solve : yX7_solve.cls = RX7 ∧ yX7_solve.cls ≠ "java/lang/invoke/MethodHandle" ∧ yX7_solve.cls ≠ "java/lang/invoke/VarHandle" ∧ (parseMethodDescriptor yX7_solve.desc).map (fun d => d.parameters.length) = some 1 := by decide +kernel
theorem hd_X7_start : yX7_start.cls = RX7 ∧ yX7_start.cls ≠ "java/lang/invoke/MethodHandle" ∧ yX7_start.cls ≠ "java/lang/invoke/VarHandle" ∧ (parseMethodDescriptor yX7_start.desc).map (fun d => d.parameters.length) = some 2 := by decide +kernel
theorem hd_X7_take : yX7_take.cls = RX7 ∧ yX7_take.cls ≠ "java/lang/invoke/MethodHandle" ∧ yX7_take.cls ≠ "java/lang/invoke/VarHandle" ∧ (parseMethodDescriptor yX7_take.desc).map (fun d => d.parameters.length) = some 1 := by decide +kernel
theorem hd_X8_addRoll : yX8_addRoll.cls = RX8 ∧ yX8_addRoll.cls ≠ "java/lang/invoke/MethodHandle" ∧ yX8_addRoll.cls ≠ "java/lang/invoke/VarHandle" ∧ (parseMethodDescriptor yX8_addRoll.desc).map (fun d => d.parameters.length) = some 1 := by decide +kernel
theorem hd_X8_allRolls : yX8_allRolls.cls = RX8 ∧ yX8_allRolls.cls ≠ "java/lang/invoke/MethodHandle" ∧ yX8_allRolls.cls ≠ "java/lang/invoke/VarHandle" ∧ (parseMethodDescriptor yX8_allRolls.desc).map (fun d => d.parameters.length) = some 0 := by decide +kernel
theorem hd_X8_clear : yX8_clear.cls = RX8 ∧ yX8_clear.cls ≠ "java/lang/invoke/MethodHandle" ∧ yX8_clear.cls ≠ "java/lang/invoke/VarHandle" ∧ (parseMethodDescriptor yX8_clear.desc).map (fun d => d.parameters.length) = some 0 := by decide +kernel
theorem hd_X8_copyFrom : yX8_copyFrom.cls = RX8 ∧ yX8_copyFrom.cls ≠ "java/lang/invoke/MethodHandle" ∧ yX8_copyFrom.cls ≠ "java/lang/invoke/VarHandle" ∧ (parseMethodDescriptor yX8_copyFrom.desc).map (fun d => d.parameters.length) = some 1 := by decide +kernel
theorem hd_X8_isSlot : yX8_isSlot.cls = RX8 ∧ yX8_isSlot.cls ≠ "java/lang/invoke/MethodHandle" ∧ yX8_isSlot.cls ≠ "java/lang/invoke/VarHandle" ∧ (parseMethodDescriptor yX8_isSlot.desc).map (fun d => d.parameters.length) = some 1 := by decide +kernel
theorem hd_X8_piecesOf : yX8_piecesOf.cls = RX8 ∧ yX8_piecesOf.cls ≠ "java/lang/invoke/MethodHandle" ∧ yX8_piecesOf.cls ≠ "java/lang/invoke/VarHandle" ∧ (parseMethodDescriptor yX8_piecesOf.desc).map (fun d => d.parameters.length) = some 1 := by decide +kernel
theorem hd_X8_takeRoll : yX8_takeRoll.cls = RX8 ∧ yX8_takeRoll.cls ≠ "java/lang/invoke/MethodHandle" ∧ yX8_takeRoll.cls ≠ "java/lang/invoke/VarHandle" ∧ (parseMethodDescriptor yX8_takeRoll.desc).map (fun d => d.parameters.length) = some 1 := by decide +kernel
theorem hd_X9_isLot : yX9_isLot.cls = RX9 ∧ yX9_isLot.cls ≠ "java/lang/invoke/MethodHandle" ∧ yX9_isLot.cls ≠ "java/lang/invoke/VarHandle" ∧ (parseMethodDescriptor yX9_isLot.desc).map (fun d => d.parameters.length) = some 1 := by decide +kernel
theorem hd_X9_takeRoll : yX9_takeRoll.cls = RX9 ∧ yX9_takeRoll.cls ≠ "java/lang/invoke/MethodHandle" ∧ yX9_takeRoll.cls ≠ "java/lang/invoke/VarHandle" ∧ (parseMethodDescriptor yX9_takeRoll.desc).map (fun d => d.parameters.length) = some 3 := by decide +kernel
theorem inn_X10_about_4 : ∀ w ∈ u_ws RX4 TX4 8, w ∈ wsX10_about := by decide +kernel
theorem inn_X10_about_6 : ∀ w ∈ u_ws RX6 TX6 6, w ∈ wsX10_about := by decide +kernel
theorem inn_X10_about_10 : ∀ w ∈ u_ws RX10 TX10 15, w ∈ wsX10_about := by decide +kernel
theorem inn_X10_area_2 : ∀ w ∈ u_ws RX2 TX2 6, w ∈ wsX10_area := by decide +kernel
theorem inn_X10_area_10 : ∀ w ∈ u_ws RX10 TX10 15, w ∈ wsX10_area := by decide +kernel
theorem inn_X10_best_10 : ∀ w ∈ u_ws RX10 TX10 15, w ∈ wsX10_best := by decide +kernel
theorem inn_X10_bound_6 : ∀ w ∈ u_ws RX6 TX6 6, w ∈ wsX10_bound := by decide +kernel
theorem inn_X10_bound_10 : ∀ w ∈ u_ws RX10 TX10 15, w ∈ wsX10_bound := by decide +kernel
theorem inn_X10_cut_2 : ∀ w ∈ u_ws RX2 TX2 6, w ∈ wsX10_cut := by decide +kernel
theorem inn_X10_cut_4 : ∀ w ∈ u_ws RX4 TX4 8, w ∈ wsX10_cut := by decide +kernel
theorem inn_X10_cut_8 : ∀ w ∈ u_ws RX8 TX8 3, w ∈ wsX10_cut := by decide +kernel
theorem inn_X10_cut_9 : ∀ w ∈ u_ws RX9 TX9 4, w ∈ wsX10_cut := by decide +kernel
theorem inn_X10_cut_10 : ∀ w ∈ u_ws RX10 TX10 15, w ∈ wsX10_cut := by decide +kernel
theorem inn_X10_draftFewest_10 : ∀ w ∈ u_ws RX10 TX10 15, w ∈ wsX10_draftFewest := by decide +kernel
theorem inn_X10_drop_10 : ∀ w ∈ u_ws RX10 TX10 15, w ∈ wsX10_drop := by decide +kernel
theorem inn_X10_fewest_10 : ∀ w ∈ u_ws RX10 TX10 15, w ∈ wsX10_fewest := by decide +kernel
theorem inn_X10_find_10 : ∀ w ∈ u_ws RX10 TX10 15, w ∈ wsX10_find := by decide +kernel
theorem inn_X10_forgetPatterns_10 : ∀ w ∈ u_ws RX10 TX10 15, w ∈ wsX10_forgetPatterns := by decide +kernel
theorem inn_X10_greedy_10 : ∀ w ∈ u_ws RX10 TX10 15, w ∈ wsX10_greedy := by decide +kernel
theorem inn_X10_isWantedWithoutRoom_4 : ∀ w ∈ u_ws RX4 TX4 8, w ∈ wsX10_isWantedWithoutRoom := by decide +kernel
theorem inn_X10_isWantedWithoutRoom_10 : ∀ w ∈ u_ws RX10 TX10 15, w ∈ wsX10_isWantedWithoutRoom := by decide +kernel
theorem inn_X10_keep_10 : ∀ w ∈ u_ws RX10 TX10 15, w ∈ wsX10_keep := by decide +kernel
theorem inn_X10_length_10 : ∀ w ∈ u_ws RX10 TX10 15, w ∈ wsX10_length := by decide +kernel
theorem inn_X10_line_8 : ∀ w ∈ u_ws RX8 TX8 3, w ∈ wsX10_line := by decide +kernel
theorem inn_X10_line_10 : ∀ w ∈ u_ws RX10 TX10 15, w ∈ wsX10_line := by decide +kernel
theorem inn_X10_lot_9 : ∀ w ∈ u_ws RX9 TX9 4, w ∈ wsX10_lot := by decide +kernel
theorem inn_X10_lot_10 : ∀ w ∈ u_ws RX10 TX10 15, w ∈ wsX10_lot := by decide +kernel
theorem inn_X10_lotted_9 : ∀ w ∈ u_ws RX9 TX9 4, w ∈ wsX10_lotted := by decide +kernel
theorem inn_X10_lotted_10 : ∀ w ∈ u_ws RX10 TX10 15, w ∈ wsX10_lotted := by decide +kernel
theorem inn_X10_mill_10 : ∀ w ∈ u_ws RX10 TX10 15, w ∈ wsX10_mill := by decide +kernel
theorem inn_X10_movesOfAll_8 : ∀ w ∈ u_ws RX8 TX8 3, w ∈ wsX10_movesOfAll := by decide +kernel
theorem inn_X10_movesOfAll_10 : ∀ w ∈ u_ws RX10 TX10 15, w ∈ wsX10_movesOfAll := by decide +kernel
theorem inn_X10_movesTo_8 : ∀ w ∈ u_ws RX8 TX8 3, w ∈ wsX10_movesTo := by decide +kernel
theorem inn_X10_movesTo_10 : ∀ w ∈ u_ws RX10 TX10 15, w ∈ wsX10_movesTo := by decide +kernel
theorem inn_X10_order_6 : ∀ w ∈ u_ws RX6 TX6 6, w ∈ wsX10_order := by decide +kernel
theorem inn_X10_order_10 : ∀ w ∈ u_ws RX10 TX10 15, w ∈ wsX10_order := by decide +kernel
theorem inn_X10_pattern_10 : ∀ w ∈ u_ws RX10 TX10 15, w ∈ wsX10_pattern := by decide +kernel
theorem inn_X10_patterns_10 : ∀ w ∈ u_ws RX10 TX10 15, w ∈ wsX10_patterns := by decide +kernel
theorem inn_X10_piecesBeyond_4 : ∀ w ∈ u_ws RX4 TX4 8, w ∈ wsX10_piecesBeyond := by decide +kernel
theorem inn_X10_piecesBeyond_10 : ∀ w ∈ u_ws RX10 TX10 15, w ∈ wsX10_piecesBeyond := by decide +kernel
theorem inn_X10_piecesMissing_4 : ∀ w ∈ u_ws RX4 TX4 8, w ∈ wsX10_piecesMissing := by decide +kernel
theorem inn_X10_piecesMissing_10 : ∀ w ∈ u_ws RX10 TX10 15, w ∈ wsX10_piecesMissing := by decide +kernel
theorem inn_X10_plan_8 : ∀ w ∈ u_ws RX8 TX8 3, w ∈ wsX10_plan := by decide +kernel
theorem inn_X10_plan_10 : ∀ w ∈ u_ws RX10 TX10 15, w ∈ wsX10_plan := by decide +kernel
theorem inn_X10_price_6 : ∀ w ∈ u_ws RX6 TX6 6, w ∈ wsX10_price := by decide +kernel
theorem inn_X10_price_10 : ∀ w ∈ u_ws RX10 TX10 15, w ∈ wsX10_price := by decide +kernel
theorem inn_X10_refusalOfCut_8 : ∀ w ∈ u_ws RX8 TX8 3, w ∈ wsX10_refusalOfCut := by decide +kernel
theorem inn_X10_refusalOfCut_9 : ∀ w ∈ u_ws RX9 TX9 4, w ∈ wsX10_refusalOfCut := by decide +kernel
theorem inn_X10_refusalOfCut_10 : ∀ w ∈ u_ws RX10 TX10 15, w ∈ wsX10_refusalOfCut := by decide +kernel
theorem inn_X10_slot_8 : ∀ w ∈ u_ws RX8 TX8 3, w ∈ wsX10_slot := by decide +kernel
theorem inn_X10_slot_10 : ∀ w ∈ u_ws RX10 TX10 15, w ∈ wsX10_slot := by decide +kernel
theorem inn_X10_slotted_4 : ∀ w ∈ u_ws RX4 TX4 8, w ∈ wsX10_slotted := by decide +kernel
theorem inn_X10_slotted_8 : ∀ w ∈ u_ws RX8 TX8 3, w ∈ wsX10_slotted := by decide +kernel
theorem inn_X10_slotted_10 : ∀ w ∈ u_ws RX10 TX10 15, w ∈ wsX10_slotted := by decide +kernel
theorem inn_X10_strip_4 : ∀ w ∈ u_ws RX4 TX4 8, w ∈ wsX10_strip := by decide +kernel
theorem inn_X10_strip_10 : ∀ w ∈ u_ws RX10 TX10 15, w ∈ wsX10_strip := by decide +kernel
theorem inn_X10_undo_10 : ∀ w ∈ u_ws RX10 TX10 15, w ∈ wsX10_undo := by decide +kernel
theorem inn_X10_wasteOfAll_8 : ∀ w ∈ u_ws RX8 TX8 3, w ∈ wsX10_wasteOfAll := by decide +kernel
theorem inn_X10_wasteOfAll_10 : ∀ w ∈ u_ws RX10 TX10 15, w ∈ wsX10_wasteOfAll := by decide +kernel
theorem inn_X10_width_4 : ∀ w ∈ u_ws RX4 TX4 8, w ∈ wsX10_width := by decide +kernel
theorem inn_X10_width_6 : ∀ w ∈ u_ws RX6 TX6 6, w ∈ wsX10_width := by decide +kernel
theorem inn_X10_width_10 : ∀ w ∈ u_ws RX10 TX10 15, w ∈ wsX10_width := by decide +kernel
theorem inn_X10_worthiest_10 : ∀ w ∈ u_ws RX10 TX10 15, w ∈ wsX10_worthiest := by decide +kernel
def fX10_forgetPatterns (n : Nat) (T : TS) : Option (TS) := bv (fX5_forget n T) (fun T_1 => bv (fX8_clear_11 n T_1) (fun T_3 => nm (uI T_3 13 (0 : Int32)) (fun T_5 => some T_5)))
set_option maxHeartbeats 4000000 in
set_option maxRecDepth 100000 in
theorem mtX10_forgetPatterns (l : Launch) (X : XT) (n : Nat) (T T' : TS) (h : fX10_forgetPatterns n T = some T') : Met l yX10_forgetPatterns wsX10_forgetPatterns (RM 1) (PreX X [.ref (ad X 0)] T) (QQ X none T') 0 0 (xA X) := by
  refine q_start (by decide) rfl (Nat.le_of_ble_eq_true rfl) ?_
  intro k hk C
  subst hk
  show GW k T 0 [(0, .ref (ad k.1 0))] []
  unfold fX10_forgetPatterns at h
  refine q_aload_n C dX10_forgetPatterns_0 rfl 0 rfl ?_
  refine q_get (j := 1) C dX10_forgetPatterns_1 (wE_0 _ _) rfl (by decide) rfl inn_X10_forgetPatterns_10 (by decide +kernel) rfl ?_
  obtain ⟨T_1, hc, h⟩ := bv_some h
  refine q_callV (st' := []) C dX10_forgetPatterns_4 [] [] (mtX5_forget l _ n _ _ hc) gX10_forgetPatterns_X5_forget rfl hd_X5_forget (by decide) (by decide) (wE_4 _ _) rfl rfl rfl (Nat.le_of_ble_eq_true rfl) rfl ?_
  clear hc
  refine q_aload_n C dX10_forgetPatterns_7 rfl 0 rfl ?_
  refine q_get (j := 3) C dX10_forgetPatterns_8 (wE_0 _ _) rfl (by decide) rfl inn_X10_forgetPatterns_10 (by decide +kernel) rfl ?_
  obtain ⟨T_3, hc, h⟩ := bv_some h
  refine q_callV (st' := []) C dX10_forgetPatterns_11 [] [] (mtX8_clear_11 l _ n _ _ hc) gX10_forgetPatterns_X8_clear rfl hd_X8_clear (by decide) (by decide) (wE_11 _ _) rfl rfl rfl (Nat.le_of_ble_eq_true rfl) rfl ?_
  clear hc
  refine q_aload_n C dX10_forgetPatterns_14 rfl 0 rfl ?_
  refine q_iconst (v := 0) C dX10_forgetPatterns_15 (by decide) ?_
  refine q_putI (j := 13) (ty := .boolean) C dX10_forgetPatterns_16 (wE_0 _ _) (wP_0_13 _ _ _) rfl (by decide) (Nat.le_of_ble_eq_true rfl) tyX10 tyX10_ok nmX10 inn_X10_forgetPatterns_10 (by decide +kernel) rfl rfl (by decide +kernel) rfl rfl h (fun T_5 h => ?_)
  exact q_vreturn C dX10_forgetPatterns_19 h
def fX10_mill (n : Nat) (p0 : Int32) (p1 : Int32) (p2 : Int32) (T : TS) : Option (Int32 × TS) := bd (fX10_within n p0 (10 : Int32) (10000 : Int32) T) (fun r_2 T_1 => if r_2 = 0 then rz (0 : Int32) T_1 else nz (4 : Int32) (bd (fX10_within n p1 (0 : Int32) (p0 / (4 : Int32)) T_1) (fun r_4 T_3 => if r_4 = 0 then rz (0 : Int32) T_3 else bd (fX10_within n p2 (1 : Int32) (20 : Int32) T_3) (fun r_6 T_5 => if ¬ r_6 = 0 then bd (fX4_widest n T_5) (fun r_8 T_7 => if r_8 ≤ p0 then bv (fX4_become n p0 p1 p2 T_7) (fun T_9 => bv (fX10_forgetPatterns n T_9) (fun T_11 => rz (1 : Int32) T_11)) else rz (0 : Int32) T_7) else rz (0 : Int32) T_5))))
set_option maxHeartbeats 4000000 in
set_option maxRecDepth 100000 in
theorem mtX10_mill (l : Launch) (X : XT) (n : Nat) (p0 : Int32) (p1 : Int32) (p2 : Int32) (T T' : TS) (r : Int32) (h : fX10_mill n p0 p1 p2 T = some (r, T')) : Met l yX10_mill wsX10_mill (RM 2) (PreX X [.ref (ad X 0), .int p0, .int p1, .int p2] T) (QQ X (some (.int r)) T') 0 0 (xA X) := by
  refine q_start (by decide) rfl (Nat.le_of_ble_eq_true rfl) ?_
  intro k hk C
  subst hk
  show GW k T 0 [(0, .ref (ad k.1 0)), (1, .int p0), (2, .int p1), (3, .int p2)] []
  unfold fX10_mill at h
  refine q_iload_n C dX10_mill_0 rfl 1 rfl ?_
  refine q_bipush (v := 10) C dX10_mill_1 (by decide) ?_
  refine q_sipush (v := 10000) C dX10_mill_3 (by decide) ?_
  obtain ⟨r_2, T_1, hc, h⟩ := bd_some h
  refine q_callS (st' := [.int r_2]) C dX10_mill_6 [.int p0, .int (10 : Int32), .int (10000 : Int32)] [] (mtX10_within l _ n _ _ _ _ _ _ hc) gX10_mill_X10_within rfl hd_X10_within (by decide) (by decide) rfl rfl (Nat.le_of_ble_eq_true rfl) rfl ?_
  clear hc
  refine q_if_eq (tgt := 33) C dX10_mill_9 (by decide) h (fun c h => ?_) (fun c h => ?_)
  · refine q_iconst (v := 0) C dX10_mill_33 (by decide) ?_
    exact q_zreturn C dX10_mill_34 h
  · refine q_iload_n C dX10_mill_12 rfl 2 rfl ?_
    refine q_iconst (v := 0) C dX10_mill_13 (by decide) ?_
    refine q_iload_n C dX10_mill_14 rfl 1 rfl ?_
    refine q_iconst (v := 4) C dX10_mill_15 (by decide) ?_
    refine q_idiv C dX10_mill_16 h (fun h => ?_)
    obtain ⟨r_4, T_3, hc, h⟩ := bd_some h
    refine q_callS (st' := [.int r_4]) C dX10_mill_17 [.int p1, .int (0 : Int32), .int (p0 / (4 : Int32))] [] (mtX10_within l _ n _ _ _ _ _ _ hc) gX10_mill_X10_within rfl hd_X10_within (by decide) (by decide) rfl rfl (Nat.le_of_ble_eq_true rfl) rfl ?_
    clear hc
    refine q_if_eq (tgt := 33) C dX10_mill_20 (by decide) h (fun c h => ?_) (fun c h => ?_)
    · refine q_iconst (v := 0) C dX10_mill_33 (by decide) ?_
      exact q_zreturn C dX10_mill_34 h
    · refine q_iload_n C dX10_mill_23 rfl 3 rfl ?_
      refine q_iconst (v := 1) C dX10_mill_24 (by decide) ?_
      refine q_bipush (v := 20) C dX10_mill_25 (by decide) ?_
      obtain ⟨r_6, T_5, hc, h⟩ := bd_some h
      refine q_callS (st' := [.int r_6]) C dX10_mill_27 [.int p2, .int (1 : Int32), .int (20 : Int32)] [] (mtX10_within l _ n _ _ _ _ _ _ hc) gX10_mill_X10_within rfl hd_X10_within (by decide) (by decide) rfl rfl (Nat.le_of_ble_eq_true rfl) rfl ?_
      clear hc
      refine q_if_ne (tgt := 35) C dX10_mill_30 (by decide) h (fun c h => ?_) (fun c h => ?_)
      · refine q_aload_n C dX10_mill_35 rfl 0 rfl ?_
        refine q_get (j := 0) C dX10_mill_36 (wE_0 _ _) rfl (by decide) rfl inn_X10_mill_10 (by decide +kernel) rfl ?_
        obtain ⟨r_8, T_7, hc, h⟩ := bd_some h
        refine q_callV (st' := [.int r_8]) C dX10_mill_39 [] [] (mtX4_widest l _ n _ _ _ hc) gX10_mill_X4_widest rfl hd_X4_widest (by decide) (by decide) (wE_1 _ _) rfl rfl rfl (Nat.le_of_ble_eq_true rfl) rfl ?_
        clear hc
        refine q_iload_n C dX10_mill_42 rfl 1 rfl ?_
        refine q_icmp_le (tgt := 48) C dX10_mill_43 (by decide) h (fun c h => ?_) (fun c h => ?_)
        · refine q_aload_n C dX10_mill_48 rfl 0 rfl ?_
          refine q_get (j := 0) C dX10_mill_49 (wE_0 _ _) rfl (by decide) rfl inn_X10_mill_10 (by decide +kernel) rfl ?_
          refine q_iload_n C dX10_mill_52 rfl 1 rfl ?_
          refine q_iload_n C dX10_mill_53 rfl 2 rfl ?_
          refine q_iload_n C dX10_mill_54 rfl 3 rfl ?_
          obtain ⟨T_9, hc, h⟩ := bv_some h
          refine q_callV (st' := []) C dX10_mill_55 [.int p0, .int p1, .int p2] [] (mtX4_become l _ n _ _ _ _ _ hc) gX10_mill_X4_become rfl hd_X4_become (by decide) (by decide) (wE_1 _ _) rfl rfl rfl (Nat.le_of_ble_eq_true rfl) rfl ?_
          clear hc
          refine q_aload_n C dX10_mill_58 rfl 0 rfl ?_
          obtain ⟨T_11, hc, h⟩ := bv_some h
          refine q_callV (st' := []) C dX10_mill_59 [] [] (mtX10_forgetPatterns l _ n _ _ hc) gX10_mill_X10_forgetPatterns rfl hd_X10_forgetPatterns (by decide) (by decide) (wE_0 _ _) rfl rfl rfl (Nat.le_of_ble_eq_true rfl) rfl ?_
          clear hc
          refine q_iconst (v := 1) C dX10_mill_62 (by decide) ?_
          exact q_zreturn C dX10_mill_63 h
        · refine q_iconst (v := 0) C dX10_mill_46 (by decide) ?_
          exact q_zreturn C dX10_mill_47 h
      · refine q_iconst (v := 0) C dX10_mill_33 (by decide) ?_
        exact q_zreturn C dX10_mill_34 h
def fX10_strip (n : Nat) (p0 : Int32) (p1 : Int32) (T : TS) : Option (Int32 × TS) := if p0 < 0 then rz (0 : Int32) T else if p1 < p0 then rz (0 : Int32) T else if p1 ≤ (gI T 50) then nm (uI T 53 p0) (fun T_1 => nm (uI T_1 54 p1) (fun T_2 => rz (1 : Int32) T_2)) else rz (0 : Int32) T
set_option maxHeartbeats 4000000 in
set_option maxRecDepth 100000 in
theorem mtX10_strip (l : Launch) (X : XT) (n : Nat) (p0 : Int32) (p1 : Int32) (T T' : TS) (r : Int32) (h : fX10_strip n p0 p1 T = some (r, T')) : Met l yX10_strip wsX10_strip (RM 0) (PreX X [.ref (ad X 0), .int p0, .int p1] T) (QQ X (some (.int r)) T') 0 0 (xA X) := by
  refine q_start (by decide) rfl (Nat.le_of_ble_eq_true rfl) ?_
  intro k hk C
  subst hk
  show GW k T 0 [(0, .ref (ad k.1 0)), (1, .int p0), (2, .int p1)] []
  unfold fX10_strip at h
  refine q_iload_n C dX10_strip_0 rfl 1 rfl ?_
  refine q_if_lt (tgt := 20) C dX10_strip_1 (by decide) h (fun c h => ?_) (fun c h => ?_)
  · refine q_iconst (v := 0) C dX10_strip_20 (by decide) ?_
    exact q_zreturn C dX10_strip_21 h
  · refine q_iload_n C dX10_strip_4 rfl 2 rfl ?_
    refine q_iload_n C dX10_strip_5 rfl 1 rfl ?_
    refine q_icmp_lt (tgt := 20) C dX10_strip_6 (by decide) h (fun c h => ?_) (fun c h => ?_)
    · refine q_iconst (v := 0) C dX10_strip_20 (by decide) ?_
      exact q_zreturn C dX10_strip_21 h
    · refine q_iload_n C dX10_strip_9 rfl 2 rfl ?_
      refine q_aload_n C dX10_strip_10 rfl 0 rfl ?_
      refine q_get (j := 0) C dX10_strip_11 (wE_0 _ _) rfl (by decide) rfl inn_X10_strip_10 (by decide +kernel) rfl ?_
      refine q_get (j := 0) C dX10_strip_14 (wE_1 _ _) rfl (by decide) rfl inn_X10_strip_4 (by decide +kernel) rfl ?_
      refine q_icmp_le (tgt := 22) C dX10_strip_17 (by decide) h (fun c h => ?_) (fun c h => ?_)
      · refine q_aload_n C dX10_strip_22 rfl 0 rfl ?_
        refine q_get (j := 0) C dX10_strip_23 (wE_0 _ _) rfl (by decide) rfl inn_X10_strip_10 (by decide +kernel) rfl ?_
        refine q_iload_n C dX10_strip_26 rfl 1 rfl ?_
        refine q_putI (j := 3) (ty := .int) C dX10_strip_27 (wE_1 _ _) (wP_1_3 _ _ _) rfl (by decide) (Nat.le_of_ble_eq_true rfl) tyX4 tyX4_ok nmX4 inn_X10_strip_4 (by decide +kernel) rfl rfl (by decide +kernel) rfl rfl h (fun T_1 h => ?_)
        refine q_aload_n C dX10_strip_30 rfl 0 rfl ?_
        refine q_get (j := 0) C dX10_strip_31 (wE_0 _ _) rfl (by decide) rfl inn_X10_strip_10 (by decide +kernel) rfl ?_
        refine q_iload_n C dX10_strip_34 rfl 2 rfl ?_
        refine q_putI (j := 4) (ty := .int) C dX10_strip_35 (wE_1 _ _) (wP_1_4 _ _ _) rfl (by decide) (Nat.le_of_ble_eq_true rfl) tyX4 tyX4_ok nmX4 inn_X10_strip_4 (by decide +kernel) rfl rfl (by decide +kernel) rfl rfl h (fun T_2 h => ?_)
        refine q_iconst (v := 1) C dX10_strip_38 (by decide) ?_
        exact q_zreturn C dX10_strip_39 h
      · refine q_iconst (v := 0) C dX10_strip_20 (by decide) ?_
        exact q_zreturn C dX10_strip_21 h
def fX10_width (n : Nat) (p0 : Int32) (p1 : Int32) (T : TS) : Option (Int32 × TS) := bd (fX10_within n p0 (1 : Int32) (gI T 50) T) (fun r_2 T_1 => if r_2 = 0 then some ((-1 : Int32), T_1) else bd (fX10_within n p1 (0 : Int32) (40 : Int32) T_1) (fun r_4 T_3 => if ¬ r_4 = 0 then if (6 : Int32) ≤ (gI T_3 55) then some ((-1 : Int32), T_3) else bd (fX4_hasWidthOf n p0 T_3) (fun r_6 T_5 => if r_6 = 0 then bd (fX4_addWidth n p0 T_5) (fun r_8 T_7 => ck r_8 6 (nm (sA T_7 8 r_8 p1) (fun T_9 => bv (fX10_forgetPatterns n T_9) (fun T_10 => some (r_8, T_10))))) else some ((-1 : Int32), T_5)) else some ((-1 : Int32), T_3)))
set_option maxHeartbeats 4000000 in
set_option maxRecDepth 100000 in
theorem mtX10_width (l : Launch) (X : XT) (n : Nat) (p0 : Int32) (p1 : Int32) (T T' : TS) (r : Int32) (h : fX10_width n p0 p1 T = some (r, T')) : Met l yX10_width wsX10_width (RM 2) (PreX X [.ref (ad X 0), .int p0, .int p1] T) (QQ X (some (.int r)) T') 0 0 (xA X) := by
  refine q_start (by decide) rfl (Nat.le_of_ble_eq_true rfl) ?_
  intro k hk C
  subst hk
  show GW k T 0 [(0, .ref (ad k.1 0)), (1, .int p0), (2, .int p1)] []
  unfold fX10_width at h
  refine q_iload_n C dX10_width_0 rfl 1 rfl ?_
  refine q_iconst (v := 1) C dX10_width_1 (by decide) ?_
  refine q_aload_n C dX10_width_2 rfl 0 rfl ?_
  refine q_get (j := 0) C dX10_width_3 (wE_0 _ _) rfl (by decide) rfl inn_X10_width_10 (by decide +kernel) rfl ?_
  refine q_get (j := 0) C dX10_width_6 (wE_1 _ _) rfl (by decide) rfl inn_X10_width_4 (by decide +kernel) rfl ?_
  obtain ⟨r_2, T_1, hc, h⟩ := bd_some h
  refine q_callS (st' := [.int r_2]) C dX10_width_9 [.int p0, .int (1 : Int32), .int (gI T 50)] [] (mtX10_within l _ n _ _ _ _ _ _ hc) gX10_width_X10_within rfl hd_X10_within (by decide) (by decide) rfl rfl (Nat.le_of_ble_eq_true rfl) rfl ?_
  clear hc
  refine q_if_eq (tgt := 25) C dX10_width_12 (by decide) h (fun c h => ?_) (fun c h => ?_)
  · refine q_iconst (v := -1) C dX10_width_25 (by decide) ?_
    exact q_ireturn C dX10_width_26 h
  · refine q_iload_n C dX10_width_15 rfl 2 rfl ?_
    refine q_iconst (v := 0) C dX10_width_16 (by decide) ?_
    refine q_bipush (v := 40) C dX10_width_17 (by decide) ?_
    obtain ⟨r_4, T_3, hc, h⟩ := bd_some h
    refine q_callS (st' := [.int r_4]) C dX10_width_19 [.int p1, .int (0 : Int32), .int (40 : Int32)] [] (mtX10_within l _ n _ _ _ _ _ _ hc) gX10_width_X10_within rfl hd_X10_within (by decide) (by decide) rfl rfl (Nat.le_of_ble_eq_true rfl) rfl ?_
    clear hc
    refine q_if_ne (tgt := 27) C dX10_width_22 (by decide) h (fun c h => ?_) (fun c h => ?_)
    · refine q_aload_n C dX10_width_27 rfl 0 rfl ?_
      refine q_get (j := 0) C dX10_width_28 (wE_0 _ _) rfl (by decide) rfl inn_X10_width_10 (by decide +kernel) rfl ?_
      refine q_get (j := 5) C dX10_width_31 (wE_1 _ _) rfl (by decide) rfl inn_X10_width_4 (by decide +kernel) rfl ?_
      refine q_bipush (v := 6) C dX10_width_34 (by decide) ?_
      refine q_icmp_ge (tgt := 50) C dX10_width_36 (by decide) h (fun c h => ?_) (fun c h => ?_)
      · refine q_iconst (v := -1) C dX10_width_50 (by decide) ?_
        exact q_ireturn C dX10_width_51 h
      · refine q_aload_n C dX10_width_39 rfl 0 rfl ?_
        refine q_get (j := 0) C dX10_width_40 (wE_0 _ _) rfl (by decide) rfl inn_X10_width_10 (by decide +kernel) rfl ?_
        refine q_iload_n C dX10_width_43 rfl 1 rfl ?_
        obtain ⟨r_6, T_5, hc, h⟩ := bd_some h
        refine q_callV (st' := [.int r_6]) C dX10_width_44 [.int p0] [] (mtX4_hasWidthOf l _ n _ _ _ _ hc) gX10_width_X4_hasWidthOf rfl hd_X4_hasWidthOf (by decide) (by decide) (wE_1 _ _) rfl rfl rfl (Nat.le_of_ble_eq_true rfl) rfl ?_
        clear hc
        refine q_if_eq (tgt := 52) C dX10_width_47 (by decide) h (fun c h => ?_) (fun c h => ?_)
        · refine q_aload_n C dX10_width_52 rfl 0 rfl ?_
          refine q_get (j := 0) C dX10_width_53 (wE_0 _ _) rfl (by decide) rfl inn_X10_width_10 (by decide +kernel) rfl ?_
          refine q_iload_n C dX10_width_56 rfl 1 rfl ?_
          obtain ⟨r_8, T_7, hc, h⟩ := bd_some h
          refine q_callV (st' := [.int r_8]) C dX10_width_57 [.int p0] [] (mtX4_addWidth l _ n _ _ _ _ hc) gX10_width_X4_addWidth rfl hd_X4_addWidth (by decide) (by decide) (wE_1 _ _) rfl rfl rfl (Nat.le_of_ble_eq_true rfl) rfl ?_
          clear hc
          refine q_istore_n (lv' := [(0, .ref (ad k.1 0)), (1, .int p0), (2, .int p1), (3, .int r_8)]) C dX10_width_60 rfl (by decide) rfl ?_
          refine q_aload_n C dX10_width_61 rfl 0 rfl ?_
          refine q_get (j := 2) C dX10_width_62 (wE_0 _ _) rfl (by decide) rfl inn_X10_width_10 (by decide +kernel) rfl ?_
          refine q_get (j := 2) C dX10_width_65 (wE_6 _ _) rfl (by decide) rfl inn_X10_width_6 (by decide +kernel) rfl ?_
          refine q_iload_n C dX10_width_68 rfl 3 rfl ?_
          refine q_iload_n C dX10_width_69 rfl 2 rfl ?_
          refine q_iast C dX10_width_70 (wE_8 _ _) (wS_8 _ _) h (fun T_9 h => ?_)
          refine q_aload_n C dX10_width_71 rfl 0 rfl ?_
          obtain ⟨T_10, hc, h⟩ := bv_some h
          refine q_callV (st' := []) C dX10_width_72 [] [] (mtX10_forgetPatterns l _ n _ _ hc) gX10_width_X10_forgetPatterns rfl hd_X10_forgetPatterns (by decide) (by decide) (wE_0 _ _) rfl rfl rfl (Nat.le_of_ble_eq_true rfl) rfl ?_
          clear hc
          refine q_iload_n C dX10_width_75 rfl 3 rfl ?_
          exact q_ireturn C dX10_width_76 h
        · refine q_iconst (v := -1) C dX10_width_50 (by decide) ?_
          exact q_ireturn C dX10_width_51 h
    · refine q_iconst (v := -1) C dX10_width_25 (by decide) ?_
      exact q_ireturn C dX10_width_26 h
def fX10_order (n : Nat) (p0 : Int32) (p1 : Int32) (T : TS) : Option (Int32 × TS) := bd (fX4_isWidth n p0 T) (fun r_2 T_1 => if r_2 = 0 then rz (0 : Int32) T_1 else bd (fX10_within n p1 (0 : Int32) (40 : Int32) T_1) (fun r_4 T_3 => if ¬ r_4 = 0 then ck p0 6 (nm (sA T_3 8 p0 p1) (fun T_5 => rz (1 : Int32) T_5)) else rz (0 : Int32) T_3))
set_option maxHeartbeats 4000000 in
set_option maxRecDepth 100000 in
theorem mtX10_order (l : Launch) (X : XT) (n : Nat) (p0 : Int32) (p1 : Int32) (T T' : TS) (r : Int32) (h : fX10_order n p0 p1 T = some (r, T')) : Met l yX10_order wsX10_order (RM 1) (PreX X [.ref (ad X 0), .int p0, .int p1] T) (QQ X (some (.int r)) T') 0 0 (xA X) := by
  refine q_start (by decide) rfl (Nat.le_of_ble_eq_true rfl) ?_
  intro k hk C
  subst hk
  show GW k T 0 [(0, .ref (ad k.1 0)), (1, .int p0), (2, .int p1)] []
  unfold fX10_order at h
  refine q_aload_n C dX10_order_0 rfl 0 rfl ?_
  refine q_get (j := 0) C dX10_order_1 (wE_0 _ _) rfl (by decide) rfl inn_X10_order_10 (by decide +kernel) rfl ?_
  refine q_iload_n C dX10_order_4 rfl 1 rfl ?_
  obtain ⟨r_2, T_1, hc, h⟩ := bd_some h
  refine q_callV (st' := [.int r_2]) C dX10_order_5 [.int p0] [] (mtX4_isWidth l _ n _ _ _ _ hc) gX10_order_X4_isWidth rfl hd_X4_isWidth (by decide) (by decide) (wE_1 _ _) rfl rfl rfl (Nat.le_of_ble_eq_true rfl) rfl ?_
  clear hc
  refine q_if_eq (tgt := 21) C dX10_order_8 (by decide) h (fun c h => ?_) (fun c h => ?_)
  · refine q_iconst (v := 0) C dX10_order_21 (by decide) ?_
    exact q_zreturn C dX10_order_22 h
  · refine q_iload_n C dX10_order_11 rfl 2 rfl ?_
    refine q_iconst (v := 0) C dX10_order_12 (by decide) ?_
    refine q_bipush (v := 40) C dX10_order_13 (by decide) ?_
    obtain ⟨r_4, T_3, hc, h⟩ := bd_some h
    refine q_callS (st' := [.int r_4]) C dX10_order_15 [.int p1, .int (0 : Int32), .int (40 : Int32)] [] (mtX10_within l _ n _ _ _ _ _ _ hc) gX10_order_X10_within rfl hd_X10_within (by decide) (by decide) rfl rfl (Nat.le_of_ble_eq_true rfl) rfl ?_
    clear hc
    refine q_if_ne (tgt := 23) C dX10_order_18 (by decide) h (fun c h => ?_) (fun c h => ?_)
    · refine q_aload_n C dX10_order_23 rfl 0 rfl ?_
      refine q_get (j := 2) C dX10_order_24 (wE_0 _ _) rfl (by decide) rfl inn_X10_order_10 (by decide +kernel) rfl ?_
      refine q_get (j := 2) C dX10_order_27 (wE_6 _ _) rfl (by decide) rfl inn_X10_order_6 (by decide +kernel) rfl ?_
      refine q_iload_n C dX10_order_30 rfl 1 rfl ?_
      refine q_iload_n C dX10_order_31 rfl 2 rfl ?_
      refine q_iast C dX10_order_32 (wE_8 _ _) (wS_8 _ _) h (fun T_5 h => ?_)
      refine q_iconst (v := 1) C dX10_order_33 (by decide) ?_
      exact q_zreturn C dX10_order_34 h
    · refine q_iconst (v := 0) C dX10_order_21 (by decide) ?_
      exact q_zreturn C dX10_order_22 h
def fX10_length (n : Nat) (p0 : Int32) (T : TS) : Option (Int32 × TS) := bd (fX10_within n p0 (1 : Int32) (10000 : Int32) T) (fun r_2 T_1 => if r_2 = 0 then rz (0 : Int32) T_1 else bd (fX6_isAnyDone n T_1) (fun r_4 T_3 => if r_4 = 0 then nm (uI T_3 14 p0) (fun T_5 => rz (1 : Int32) T_5) else rz (0 : Int32) T_3))
set_option maxHeartbeats 4000000 in
set_option maxRecDepth 100000 in
theorem mtX10_length (l : Launch) (X : XT) (n : Nat) (p0 : Int32) (T T' : TS) (r : Int32) (h : fX10_length n p0 T = some (r, T')) : Met l yX10_length wsX10_length (RM 1) (PreX X [.ref (ad X 0), .int p0] T) (QQ X (some (.int r)) T') 0 0 (xA X) := by
  refine q_start (by decide) rfl (Nat.le_of_ble_eq_true rfl) ?_
  intro k hk C
  subst hk
  show GW k T 0 [(0, .ref (ad k.1 0)), (1, .int p0)] []
  unfold fX10_length at h
  refine q_iload_n C dX10_length_0 rfl 1 rfl ?_
  refine q_iconst (v := 1) C dX10_length_1 (by decide) ?_
  refine q_sipush (v := 10000) C dX10_length_2 (by decide) ?_
  obtain ⟨r_2, T_1, hc, h⟩ := bd_some h
  refine q_callS (st' := [.int r_2]) C dX10_length_5 [.int p0, .int (1 : Int32), .int (10000 : Int32)] [] (mtX10_within l _ n _ _ _ _ _ _ hc) gX10_length_X10_within rfl hd_X10_within (by decide) (by decide) rfl rfl (Nat.le_of_ble_eq_true rfl) rfl ?_
  clear hc
  refine q_if_eq (tgt := 21) C dX10_length_8 (by decide) h (fun c h => ?_) (fun c h => ?_)
  · refine q_iconst (v := 0) C dX10_length_21 (by decide) ?_
    exact q_zreturn C dX10_length_22 h
  · refine q_aload_n C dX10_length_11 rfl 0 rfl ?_
    refine q_get (j := 2) C dX10_length_12 (wE_0 _ _) rfl (by decide) rfl inn_X10_length_10 (by decide +kernel) rfl ?_
    obtain ⟨r_4, T_3, hc, h⟩ := bd_some h
    refine q_callV (st' := [.int r_4]) C dX10_length_15 [] [] (mtX6_isAnyDone l _ n _ _ _ hc) gX10_length_X6_isAnyDone rfl hd_X6_isAnyDone (by decide) (by decide) (wE_6 _ _) rfl rfl rfl (Nat.le_of_ble_eq_true rfl) rfl ?_
    clear hc
    refine q_if_eq (tgt := 23) C dX10_length_18 (by decide) h (fun c h => ?_) (fun c h => ?_)
    · refine q_aload_n C dX10_length_23 rfl 0 rfl ?_
      refine q_iload_n C dX10_length_24 rfl 1 rfl ?_
      refine q_putI (j := 14) (ty := .int) C dX10_length_25 (wE_0 _ _) (wP_0_14 _ _ _) rfl (by decide) (Nat.le_of_ble_eq_true rfl) tyX10 tyX10_ok nmX10 inn_X10_length_10 (by decide +kernel) rfl rfl (by decide +kernel) rfl rfl h (fun T_5 h => ?_)
      refine q_iconst (v := 1) C dX10_length_28 (by decide) ?_
      exact q_zreturn C dX10_length_29 h
    · refine q_iconst (v := 0) C dX10_length_21 (by decide) ?_
      exact q_zreturn C dX10_length_22 h
def fX10_about (n : Nat) (p0 : Int32) (p1 : Int32) (T : TS) : Option (Int32 × TS) := bd (fX4_isWidth n p0 T) (fun r_2 T_1 => if ¬ r_2 = 0 then if p1 = 0 then ck p0 6 (some ((gA T_1 2 (Int32.toNatClampNeg p0)), T_1)) else if p1 = 1 then ck p0 6 (some ((gA T_1 8 (Int32.toNatClampNeg p0)), T_1)) else if p1 = 2 then ck p0 6 (some ((gA T_1 9 (Int32.toNatClampNeg p0)), T_1)) else if p1 = 3 then bd (fX6_wanted n p0 T_1) (fun r_4 T_3 => some (r_4, T_3)) else if p1 = 4 then ck p0 6 (some ((gA T_1 10 (Int32.toNatClampNeg p0)), T_1)) else if p1 = 5 then bd (fX8_piecesOf_11 n p0 T_1) (fun r_6 T_5 => some (r_6, T_5)) else some ((-1 : Int32), T_1) else some ((-1 : Int32), T_1))
set_option maxHeartbeats 4000000 in
set_option maxRecDepth 100000 in
theorem mtX10_about (l : Launch) (X : XT) (n : Nat) (p0 : Int32) (p1 : Int32) (T T' : TS) (r : Int32) (h : fX10_about n p0 p1 T = some (r, T')) : Met l yX10_about wsX10_about (RM 2) (PreX X [.ref (ad X 0), .int p0, .int p1] T) (QQ X (some (.int r)) T') 0 0 (xA X) := by
  refine q_start (by decide) rfl (Nat.le_of_ble_eq_true rfl) ?_
  intro k hk C
  subst hk
  show GW k T 0 [(0, .ref (ad k.1 0)), (1, .int p0), (2, .int p1)] []
  unfold fX10_about at h
  refine q_aload_n C dX10_about_0 rfl 0 rfl ?_
  refine q_get (j := 0) C dX10_about_1 (wE_0 _ _) rfl (by decide) rfl inn_X10_about_10 (by decide +kernel) rfl ?_
  refine q_iload_n C dX10_about_4 rfl 1 rfl ?_
  obtain ⟨r_2, T_1, hc, h⟩ := bd_some h
  refine q_callV (st' := [.int r_2]) C dX10_about_5 [.int p0] [] (mtX4_isWidth l _ n _ _ _ _ hc) gX10_about_X4_isWidth rfl hd_X4_isWidth (by decide) (by decide) (wE_1 _ _) rfl rfl rfl (Nat.le_of_ble_eq_true rfl) rfl ?_
  clear hc
  refine q_if_ne (tgt := 13) C dX10_about_8 (by decide) h (fun c h => ?_) (fun c h => ?_)
  · refine q_iload_n C dX10_about_13 rfl 2 rfl ?_
    refine q_case (v := 0) h (fun e h => ?_) (fun c0 h => ?_)
    · refine q_tswIn (tgt := 52) C dX10_about_14 e (by decide) (by decide) (by rfl) (by decide) ?_
      refine q_aload_n C dX10_about_52 rfl 0 rfl ?_
      refine q_get (j := 0) C dX10_about_53 (wE_0 _ _) rfl (by decide) rfl inn_X10_about_10 (by decide +kernel) rfl ?_
      refine q_get (j := 6) C dX10_about_56 (wE_1 _ _) rfl (by decide) rfl inn_X10_about_4 (by decide +kernel) rfl ?_
      refine q_iload_n C dX10_about_59 rfl 1 rfl ?_
      refine q_iald C dX10_about_60 (wE_2 _ _) h (fun h => ?_)
      exact q_ireturn C dX10_about_61 h
    refine q_case (v := 1) h (fun e h => ?_) (fun c1 h => ?_)
    · refine q_tswIn (tgt := 62) C dX10_about_14 e (by decide) (by decide) (by rfl) (by decide) ?_
      refine q_aload_n C dX10_about_62 rfl 0 rfl ?_
      refine q_get (j := 2) C dX10_about_63 (wE_0 _ _) rfl (by decide) rfl inn_X10_about_10 (by decide +kernel) rfl ?_
      refine q_get (j := 2) C dX10_about_66 (wE_6 _ _) rfl (by decide) rfl inn_X10_about_6 (by decide +kernel) rfl ?_
      refine q_iload_n C dX10_about_69 rfl 1 rfl ?_
      refine q_iald C dX10_about_70 (wE_8 _ _) h (fun h => ?_)
      exact q_ireturn C dX10_about_71 h
    refine q_case (v := 2) h (fun e h => ?_) (fun c2 h => ?_)
    · refine q_tswIn (tgt := 72) C dX10_about_14 e (by decide) (by decide) (by rfl) (by decide) ?_
      refine q_aload_n C dX10_about_72 rfl 0 rfl ?_
      refine q_get (j := 2) C dX10_about_73 (wE_0 _ _) rfl (by decide) rfl inn_X10_about_10 (by decide +kernel) rfl ?_
      refine q_get (j := 3) C dX10_about_76 (wE_6 _ _) rfl (by decide) rfl inn_X10_about_6 (by decide +kernel) rfl ?_
      refine q_iload_n C dX10_about_79 rfl 1 rfl ?_
      refine q_iald C dX10_about_80 (wE_9 _ _) h (fun h => ?_)
      exact q_ireturn C dX10_about_81 h
    refine q_case (v := 3) h (fun e h => ?_) (fun c3 h => ?_)
    · refine q_tswIn (tgt := 82) C dX10_about_14 e (by decide) (by decide) (by rfl) (by decide) ?_
      refine q_aload_n C dX10_about_82 rfl 0 rfl ?_
      refine q_get (j := 2) C dX10_about_83 (wE_0 _ _) rfl (by decide) rfl inn_X10_about_10 (by decide +kernel) rfl ?_
      refine q_iload_n C dX10_about_86 rfl 1 rfl ?_
      obtain ⟨r_4, T_3, hc, h⟩ := bd_some h
      refine q_callV (st' := [.int r_4]) C dX10_about_87 [.int p0] [] (mtX6_wanted l _ n _ _ _ _ hc) gX10_about_X6_wanted rfl hd_X6_wanted (by decide) (by decide) (wE_6 _ _) rfl rfl rfl (Nat.le_of_ble_eq_true rfl) rfl ?_
      clear hc
      exact q_ireturn C dX10_about_90 h
    refine q_case (v := 4) h (fun e h => ?_) (fun c4 h => ?_)
    · refine q_tswIn (tgt := 91) C dX10_about_14 e (by decide) (by decide) (by rfl) (by decide) ?_
      refine q_aload_n C dX10_about_91 rfl 0 rfl ?_
      refine q_get (j := 2) C dX10_about_92 (wE_0 _ _) rfl (by decide) rfl inn_X10_about_10 (by decide +kernel) rfl ?_
      refine q_get (j := 4) C dX10_about_95 (wE_6 _ _) rfl (by decide) rfl inn_X10_about_6 (by decide +kernel) rfl ?_
      refine q_iload_n C dX10_about_98 rfl 1 rfl ?_
      refine q_iald C dX10_about_99 (wE_10 _ _) h (fun h => ?_)
      exact q_ireturn C dX10_about_100 h
    refine q_case (v := 5) h (fun e h => ?_) (fun c5 h => ?_)
    · refine q_tswIn (tgt := 101) C dX10_about_14 e (by decide) (by decide) (by rfl) (by decide) ?_
      refine q_aload_n C dX10_about_101 rfl 0 rfl ?_
      refine q_get (j := 3) C dX10_about_102 (wE_0 _ _) rfl (by decide) rfl inn_X10_about_10 (by decide +kernel) rfl ?_
      refine q_iload_n C dX10_about_105 rfl 1 rfl ?_
      obtain ⟨r_6, T_5, hc, h⟩ := bd_some h
      refine q_callV (st' := [.int r_6]) C dX10_about_106 [.int p0] [] (mtX8_piecesOf_11 l _ n _ _ _ _ hc) gX10_about_X8_piecesOf rfl hd_X8_piecesOf (by decide) (by decide) (wE_11 _ _) rfl rfl rfl (Nat.le_of_ble_eq_true rfl) rfl ?_
      clear hc
      exact q_ireturn C dX10_about_109 h
    refine q_tswOut (tgt := 110) C dX10_about_14 (by have w0 := c0; simp only [show ((0 : Int32)).toInt = 0 from rfl] at c0; simp only [show ((1 : Int32)).toInt = 1 from rfl] at c1; simp only [show ((2 : Int32)).toInt = 2 from rfl] at c2; simp only [show ((3 : Int32)).toInt = 3 from rfl] at c3; simp only [show ((4 : Int32)).toInt = 4 from rfl] at c4; simp only [show ((5 : Int32)).toInt = 5 from rfl] at c5; omega) (by decide) ?_
    refine q_iconst (v := -1) C dX10_about_110 (by decide) ?_
    exact q_ireturn C dX10_about_111 h
  · refine q_iconst (v := -1) C dX10_about_11 (by decide) ?_
    exact q_ireturn C dX10_about_12 h
def fX10_patterns (n : Nat) (T : TS) : Option (Int32 × TS) := bd (fX5_isOverfull n T) (fun r_2 T_1 => if r_2 = 0 then bd (fX5_count n T_1) (fun r_4 T_3 => some (r_4, T_3)) else some ((-2 : Int32), T_1))
set_option maxHeartbeats 4000000 in
set_option maxRecDepth 100000 in
theorem mtX10_patterns (l : Launch) (X : XT) (n : Nat) (T T' : TS) (r : Int32) (h : fX10_patterns n T = some (r, T')) : Met l yX10_patterns wsX10_patterns (RM 12) (PreX X [.ref (ad X 0)] T) (QQ X (some (.int r)) T') 0 0 (xA X) := by
  refine q_start (by decide) rfl (Nat.le_of_ble_eq_true rfl) ?_
  intro k hk C
  subst hk
  show GW k T 0 [(0, .ref (ad k.1 0))] []
  unfold fX10_patterns at h
  refine q_aload_n C dX10_patterns_0 rfl 0 rfl ?_
  refine q_get (j := 1) C dX10_patterns_1 (wE_0 _ _) rfl (by decide) rfl inn_X10_patterns_10 (by decide +kernel) rfl ?_
  obtain ⟨r_2, T_1, hc, h⟩ := bd_some h
  refine q_callV (st' := [.int r_2]) C dX10_patterns_4 [] [] (mtX5_isOverfull l _ n _ _ _ hc) gX10_patterns_X5_isOverfull rfl hd_X5_isOverfull (by decide) (by decide) (wE_4 _ _) rfl rfl rfl (Nat.le_of_ble_eq_true rfl) rfl ?_
  clear hc
  refine q_if_eq (tgt := 15) C dX10_patterns_7 (by decide) h (fun c h => ?_) (fun c h => ?_)
  · refine q_aload_n C dX10_patterns_15 rfl 0 rfl ?_
    refine q_get (j := 1) C dX10_patterns_16 (wE_0 _ _) rfl (by decide) rfl inn_X10_patterns_10 (by decide +kernel) rfl ?_
    obtain ⟨r_4, T_3, hc, h⟩ := bd_some h
    refine q_callV (st' := [.int r_4]) C dX10_patterns_19 [] [] (mtX5_count l _ n _ _ _ hc) gX10_patterns_X5_count rfl hd_X5_count (by decide) (by decide) (wE_4 _ _) rfl rfl rfl (Nat.le_of_ble_eq_true rfl) rfl ?_
    clear hc
    exact q_ireturn C dX10_patterns_22 h
  · refine q_bipush (v := -2) C dX10_patterns_10 (by decide) ?_
    refine q_goto (tgt := 22) C dX10_patterns_12 (by decide) ?_
    exact q_ireturn C dX10_patterns_22 h
def fX10_pattern (n : Nat) (p0 : Int32) (p1 : Int32) (T : TS) : Option (Int64 × TS) := bd (fX5_isNumber n p0 T) (fun r_2 T_1 => if ¬ r_2 = 0 then bd (fX5_codeAt n p0 T_1) (fun r_4 T_3 => bd (fX4_isWidth n p1 T_3) (fun r_6 T_5 => if r_6 = 0 then if p1 = (-3) then bd (fX4_fitsFlawed n r_4 T_5) (fun r_8 T_7 => if r_8 = 0 then some ((0 : Int64), T_7) else some ((1 : Int64), T_7)) else if p1 = (-2) then bd (fX6_worthOf n r_4 T_5) (fun r_10 T_9 => some ((Int32.toInt64 r_10), T_9)) else if p1 = (-1) then bd (fX4_wasteOf n r_4 T_5) (fun r_12 T_11 => some ((Int32.toInt64 r_12), T_11)) else some ((-1000 : Int64), T_5) else bd (fX0_ofWidth n r_4 p1 T_5) (fun r_14 T_13 => some ((Int32.toInt64 r_14), T_13)))) else some ((-1000 : Int64), T_1))
set_option maxHeartbeats 4000000 in
set_option maxRecDepth 100000 in
theorem mtX10_pattern (l : Launch) (X : XT) (n : Nat) (p0 : Int32) (p1 : Int32) (T T' : TS) (r : Int64) (h : fX10_pattern n p0 p1 T = some (r, T')) : Met l yX10_pattern wsX10_pattern (RM 13) (PreX X [.ref (ad X 0), .int p0, .int p1] T) (QQ X (some (.long r)) T') 0 0 (xA X) := by
  refine q_start (by decide) rfl (Nat.le_of_ble_eq_true rfl) ?_
  intro k hk C
  subst hk
  show GW k T 0 [(0, .ref (ad k.1 0)), (1, .int p0), (2, .int p1)] []
  unfold fX10_pattern at h
  refine q_aload_n C dX10_pattern_0 rfl 0 rfl ?_
  refine q_get (j := 1) C dX10_pattern_1 (wE_0 _ _) rfl (by decide) rfl inn_X10_pattern_10 (by decide +kernel) rfl ?_
  refine q_iload_n C dX10_pattern_4 rfl 1 rfl ?_
  obtain ⟨r_2, T_1, hc, h⟩ := bd_some h
  refine q_callV (st' := [.int r_2]) C dX10_pattern_5 [.int p0] [] (mtX5_isNumber l _ n _ _ _ _ hc) gX10_pattern_X5_isNumber rfl hd_X5_isNumber (by decide) (by decide) (wE_4 _ _) rfl rfl rfl (Nat.le_of_ble_eq_true rfl) rfl ?_
  clear hc
  refine q_if_ne (tgt := 15) C dX10_pattern_8 (by decide) h (fun c h => ?_) (fun c h => ?_)
  · refine q_aload_n C dX10_pattern_15 rfl 0 rfl ?_
    refine q_get (j := 1) C dX10_pattern_16 (wE_0 _ _) rfl (by decide) rfl inn_X10_pattern_10 (by decide +kernel) rfl ?_
    refine q_iload_n C dX10_pattern_19 rfl 1 rfl ?_
    obtain ⟨r_4, T_3, hc, h⟩ := bd_some h
    refine q_callV (st' := [.int r_4]) C dX10_pattern_20 [.int p0] [] (mtX5_codeAt l _ n _ _ _ _ hc) gX10_pattern_X5_codeAt rfl hd_X5_codeAt (by decide) (by decide) (wE_4 _ _) rfl rfl rfl (Nat.le_of_ble_eq_true rfl) rfl ?_
    clear hc
    refine q_istore_n (lv' := [(0, .ref (ad k.1 0)), (1, .int p0), (2, .int p1), (3, .int r_4)]) C dX10_pattern_23 rfl (by decide) rfl ?_
    refine q_aload_n C dX10_pattern_24 rfl 0 rfl ?_
    refine q_get (j := 0) C dX10_pattern_25 (wE_0 _ _) rfl (by decide) rfl inn_X10_pattern_10 (by decide +kernel) rfl ?_
    refine q_iload_n C dX10_pattern_28 rfl 2 rfl ?_
    obtain ⟨r_6, T_5, hc, h⟩ := bd_some h
    refine q_callV (st' := [.int r_6]) C dX10_pattern_29 [.int p1] [] (mtX4_isWidth l _ n _ _ _ _ hc) gX10_pattern_X4_isWidth rfl hd_X4_isWidth (by decide) (by decide) (wE_1 _ _) rfl rfl rfl (Nat.le_of_ble_eq_true rfl) rfl ?_
    clear hc
    refine q_if_eq (tgt := 42) C dX10_pattern_32 (by decide) h (fun c h => ?_) (fun c h => ?_)
    · refine q_iload_n C dX10_pattern_42 rfl 2 rfl ?_
      refine q_case (v := -3) h (fun e h => ?_) (fun c0 h => ?_)
      · refine q_tswIn (tgt := 88) C dX10_pattern_43 e (by decide) (by decide) (by rfl) (by decide) ?_
        refine q_aload_n C dX10_pattern_88 rfl 0 rfl ?_
        refine q_get (j := 0) C dX10_pattern_89 (wE_0 _ _) rfl (by decide) rfl inn_X10_pattern_10 (by decide +kernel) rfl ?_
        refine q_iload_n C dX10_pattern_92 rfl 3 rfl ?_
        obtain ⟨r_8, T_7, hc, h⟩ := bd_some h
        refine q_callV (st' := [.int r_8]) C dX10_pattern_93 [.int r_4] [] (mtX4_fitsFlawed l _ n _ _ _ _ hc) gX10_pattern_X4_fitsFlawed rfl hd_X4_fitsFlawed (by decide) (by decide) (wE_1 _ _) rfl rfl rfl (Nat.le_of_ble_eq_true rfl) rfl ?_
        clear hc
        refine q_if_eq (tgt := 103) C dX10_pattern_96 (by decide) h (fun c h => ?_) (fun c h => ?_)
        · refine q_lconst (v := 0) C dX10_pattern_103 (by decide) ?_
          exact q_lreturn C dX10_pattern_104 h
        · refine q_lconst (v := 1) C dX10_pattern_99 (by decide) ?_
          refine q_goto (tgt := 104) C dX10_pattern_100 (by decide) ?_
          exact q_lreturn C dX10_pattern_104 h
      refine q_case (v := -2) h (fun e h => ?_) (fun c1 h => ?_)
      · refine q_tswIn (tgt := 78) C dX10_pattern_43 e (by decide) (by decide) (by rfl) (by decide) ?_
        refine q_aload_n C dX10_pattern_78 rfl 0 rfl ?_
        refine q_get (j := 2) C dX10_pattern_79 (wE_0 _ _) rfl (by decide) rfl inn_X10_pattern_10 (by decide +kernel) rfl ?_
        refine q_iload_n C dX10_pattern_82 rfl 3 rfl ?_
        obtain ⟨r_10, T_9, hc, h⟩ := bd_some h
        refine q_callV (st' := [.int r_10]) C dX10_pattern_83 [.int r_4] [] (mtX6_worthOf l _ n _ _ _ _ hc) gX10_pattern_X6_worthOf rfl hd_X6_worthOf (by decide) (by decide) (wE_6 _ _) rfl rfl rfl (Nat.le_of_ble_eq_true rfl) rfl ?_
        clear hc
        refine q_i2l C dX10_pattern_86 ?_
        exact q_lreturn C dX10_pattern_87 h
      refine q_case (v := -1) h (fun e h => ?_) (fun c2 h => ?_)
      · refine q_tswIn (tgt := 68) C dX10_pattern_43 e (by decide) (by decide) (by rfl) (by decide) ?_
        refine q_aload_n C dX10_pattern_68 rfl 0 rfl ?_
        refine q_get (j := 0) C dX10_pattern_69 (wE_0 _ _) rfl (by decide) rfl inn_X10_pattern_10 (by decide +kernel) rfl ?_
        refine q_iload_n C dX10_pattern_72 rfl 3 rfl ?_
        obtain ⟨r_12, T_11, hc, h⟩ := bd_some h
        refine q_callV (st' := [.int r_12]) C dX10_pattern_73 [.int r_4] [] (mtX4_wasteOf l _ n _ _ _ _ hc) gX10_pattern_X4_wasteOf rfl hd_X4_wasteOf (by decide) (by decide) (wE_1 _ _) rfl rfl rfl (Nat.le_of_ble_eq_true rfl) rfl ?_
        clear hc
        refine q_i2l C dX10_pattern_76 ?_
        exact q_lreturn C dX10_pattern_77 h
      refine q_tswOut (tgt := 105) C dX10_pattern_43 (by have w0 := c0; simp only [show ((-3 : Int32)).toInt = -3 from rfl] at c0; simp only [show ((-2 : Int32)).toInt = -2 from rfl] at c1; simp only [show ((-1 : Int32)).toInt = -1 from rfl] at c2; omega) (by decide) ?_
      refine q_ldc2 (v := -1000) C dX10_pattern_105 (by decide +kernel) ?_
      exact q_lreturn C dX10_pattern_108 h
    · refine q_iload_n C dX10_pattern_35 rfl 3 rfl ?_
      refine q_iload_n C dX10_pattern_36 rfl 2 rfl ?_
      obtain ⟨r_14, T_13, hc, h⟩ := bd_some h
      refine q_callS (st' := [.int r_14]) C dX10_pattern_37 [.int r_4, .int p1] [] (mtX0_ofWidth l _ n _ _ _ _ _ hc) gX10_pattern_X0_ofWidth rfl hd_X0_ofWidth (by decide) (by decide) rfl rfl (Nat.le_of_ble_eq_true rfl) rfl ?_
      clear hc
      refine q_i2l C dX10_pattern_40 ?_
      exact q_lreturn C dX10_pattern_41 h
  · refine q_ldc2 (v := -1000) C dX10_pattern_11 (by decide +kernel) ?_
    exact q_lreturn C dX10_pattern_14 h
def fX10_find (n : Nat) (p0 : Int32) (p1 : Int32) (p2 : Int32) (p3 : Int32) (p4 : Int32) (p5 : Int32) (T : TS) : Option (Int32 × TS) := bd (fX10_areCounts n p0 p1 p2 T) (fun r_2 T_1 => if r_2 = 0 then some ((-1 : Int32), T_1) else bd (fX10_areCounts n p3 p4 p5 T_1) (fun r_4 T_3 => if ¬ r_4 = 0 then bd (fX0_packed n (0 : Int32) p0 T_3) (fun r_6 T_5 => bd (fX0_packed n (1 : Int32) p1 T_5) (fun r_8 T_7 => bd (fX0_packed n (2 : Int32) p2 T_7) (fun r_10 T_9 => nm ((r_6 ||| r_8) ||| r_10) (fun x7_11 => bd (fX0_packed n (3 : Int32) p3 T_9) (fun r_13 T_12 => bd (fX0_packed n (4 : Int32) p4 T_12) (fun r_15 T_14 => bd (fX0_packed n (5 : Int32) p5 T_14) (fun r_17 T_16 => nm ((r_13 ||| r_15) ||| r_17) (fun x8_18 => bd (fX5_numberOf n (x7_11 ||| x8_18) T_16) (fun r_20 T_19 => some (r_20, T_19)))))))))) else some ((-1 : Int32), T_3)))
set_option maxHeartbeats 4000000 in
set_option maxRecDepth 100000 in
theorem mtX10_find (l : Launch) (X : XT) (n : Nat) (p0 : Int32) (p1 : Int32) (p2 : Int32) (p3 : Int32) (p4 : Int32) (p5 : Int32) (T T' : TS) (r : Int32) (h : fX10_find n p0 p1 p2 p3 p4 p5 T = some (r, T')) : Met l yX10_find wsX10_find (RM 14) (PreX X [.ref (ad X 0), .int p0, .int p1, .int p2, .int p3, .int p4, .int p5] T) (QQ X (some (.int r)) T') 0 0 (xA X) := by
  refine q_start (by decide) rfl (Nat.le_of_ble_eq_true rfl) ?_
  intro k hk C
  subst hk
  show GW k T 0 [(0, .ref (ad k.1 0)), (1, .int p0), (2, .int p1), (3, .int p2), (4, .int p3), (5, .int p4), (6, .int p5)] []
  unfold fX10_find at h
  refine q_iload_n C dX10_find_0 rfl 1 rfl ?_
  refine q_iload_n C dX10_find_1 rfl 2 rfl ?_
  refine q_iload_n C dX10_find_2 rfl 3 rfl ?_
  obtain ⟨r_2, T_1, hc, h⟩ := bd_some h
  refine q_callS (st' := [.int r_2]) C dX10_find_3 [.int p0, .int p1, .int p2] [] (mtX10_areCounts l _ n _ _ _ _ _ _ hc) gX10_find_X10_areCounts rfl hd_X10_areCounts (by decide) (by decide) rfl rfl (Nat.le_of_ble_eq_true rfl) rfl ?_
  clear hc
  refine q_if_eq (tgt := 21) C dX10_find_6 (by decide) h (fun c h => ?_) (fun c h => ?_)
  · refine q_iconst (v := -1) C dX10_find_21 (by decide) ?_
    exact q_ireturn C dX10_find_22 h
  · refine q_iload C dX10_find_9 4 rfl ?_
    refine q_iload C dX10_find_11 5 rfl ?_
    refine q_iload C dX10_find_13 6 rfl ?_
    obtain ⟨r_4, T_3, hc, h⟩ := bd_some h
    refine q_callS (st' := [.int r_4]) C dX10_find_15 [.int p3, .int p4, .int p5] [] (mtX10_areCounts l _ n _ _ _ _ _ _ hc) gX10_find_X10_areCounts rfl hd_X10_areCounts (by decide) (by decide) rfl rfl (Nat.le_of_ble_eq_true rfl) rfl ?_
    clear hc
    refine q_if_ne (tgt := 23) C dX10_find_18 (by decide) h (fun c h => ?_) (fun c h => ?_)
    · refine q_iconst (v := 0) C dX10_find_23 (by decide) ?_
      refine q_iload_n C dX10_find_24 rfl 1 rfl ?_
      obtain ⟨r_6, T_5, hc, h⟩ := bd_some h
      refine q_callS (st' := [.int r_6]) C dX10_find_25 [.int (0 : Int32), .int p0] [] (mtX0_packed l _ n _ _ _ _ _ hc) gX10_find_X0_packed rfl hd_X0_packed (by decide) (by decide) rfl rfl (Nat.le_of_ble_eq_true rfl) rfl ?_
      clear hc
      refine q_iconst (v := 1) C dX10_find_28 (by decide) ?_
      refine q_iload_n C dX10_find_29 rfl 2 rfl ?_
      obtain ⟨r_8, T_7, hc, h⟩ := bd_some h
      refine q_callS (st' := [.int r_8, .int r_6]) C dX10_find_30 [.int (1 : Int32), .int p1] [.int r_6] (mtX0_packed l _ n _ _ _ _ _ hc) gX10_find_X0_packed rfl hd_X0_packed (by decide) (by decide) rfl rfl (Nat.le_of_ble_eq_true rfl) rfl ?_
      clear hc
      refine q_ior C dX10_find_33 ?_
      refine q_iconst (v := 2) C dX10_find_34 (by decide) ?_
      refine q_iload_n C dX10_find_35 rfl 3 rfl ?_
      obtain ⟨r_10, T_9, hc, h⟩ := bd_some h
      refine q_callS (st' := [.int r_10, .int (r_6 ||| r_8)]) C dX10_find_36 [.int (2 : Int32), .int p2] [.int (r_6 ||| r_8)] (mtX0_packed l _ n _ _ _ _ _ hc) gX10_find_X0_packed rfl hd_X0_packed (by decide) (by decide) rfl rfl (Nat.le_of_ble_eq_true rfl) rfl ?_
      clear hc
      refine q_ior C dX10_find_39 ?_
      refine q_nm h (fun x7_11 h => ?_)
      refine q_istore (lv' := [(0, .ref (ad k.1 0)), (1, .int p0), (2, .int p1), (3, .int p2), (4, .int p3), (5, .int p4), (6, .int p5), (7, .int x7_11)]) C dX10_find_40 (by decide) rfl ?_
      refine q_iconst (v := 3) C dX10_find_42 (by decide) ?_
      refine q_iload C dX10_find_43 4 rfl ?_
      obtain ⟨r_13, T_12, hc, h⟩ := bd_some h
      refine q_callS (st' := [.int r_13]) C dX10_find_45 [.int (3 : Int32), .int p3] [] (mtX0_packed l _ n _ _ _ _ _ hc) gX10_find_X0_packed rfl hd_X0_packed (by decide) (by decide) rfl rfl (Nat.le_of_ble_eq_true rfl) rfl ?_
      clear hc
      refine q_iconst (v := 4) C dX10_find_48 (by decide) ?_
      refine q_iload C dX10_find_49 5 rfl ?_
      obtain ⟨r_15, T_14, hc, h⟩ := bd_some h
      refine q_callS (st' := [.int r_15, .int r_13]) C dX10_find_51 [.int (4 : Int32), .int p4] [.int r_13] (mtX0_packed l _ n _ _ _ _ _ hc) gX10_find_X0_packed rfl hd_X0_packed (by decide) (by decide) rfl rfl (Nat.le_of_ble_eq_true rfl) rfl ?_
      clear hc
      refine q_ior C dX10_find_54 ?_
      refine q_iconst (v := 5) C dX10_find_55 (by decide) ?_
      refine q_iload C dX10_find_56 6 rfl ?_
      obtain ⟨r_17, T_16, hc, h⟩ := bd_some h
      refine q_callS (st' := [.int r_17, .int (r_13 ||| r_15)]) C dX10_find_58 [.int (5 : Int32), .int p5] [.int (r_13 ||| r_15)] (mtX0_packed l _ n _ _ _ _ _ hc) gX10_find_X0_packed rfl hd_X0_packed (by decide) (by decide) rfl rfl (Nat.le_of_ble_eq_true rfl) rfl ?_
      clear hc
      refine q_ior C dX10_find_61 ?_
      refine q_nm h (fun x8_18 h => ?_)
      refine q_istore (lv' := [(0, .ref (ad k.1 0)), (1, .int p0), (2, .int p1), (3, .int p2), (4, .int p3), (5, .int p4), (6, .int p5), (7, .int x7_11), (8, .int x8_18)]) C dX10_find_62 (by decide) rfl ?_
      refine q_aload_n C dX10_find_64 rfl 0 rfl ?_
      refine q_get (j := 1) C dX10_find_65 (wE_0 _ _) rfl (by decide) rfl inn_X10_find_10 (by decide +kernel) rfl ?_
      refine q_iload C dX10_find_68 7 rfl ?_
      refine q_iload C dX10_find_70 8 rfl ?_
      refine q_ior C dX10_find_72 ?_
      obtain ⟨r_20, T_19, hc, h⟩ := bd_some h
      refine q_callV (st' := [.int r_20]) C dX10_find_73 [.int (x7_11 ||| x8_18)] [] (mtX5_numberOf l _ n _ _ _ _ hc) gX10_find_X5_numberOf rfl hd_X5_numberOf (by decide) (by decide) (wE_4 _ _) rfl rfl rfl (Nat.le_of_ble_eq_true rfl) rfl ?_
      clear hc
      exact q_ireturn C dX10_find_76 h
    · refine q_iconst (v := -1) C dX10_find_21 (by decide) ?_
      exact q_ireturn C dX10_find_22 h
def fX10_price (n : Nat) (p0 : Int32) (p1 : Int32) (T : TS) : Option (Int32 × TS) := if ¬ p0 = (-1 : Int32) then bd (fX4_isWidth n p0 T) (fun r_2 T_1 => if r_2 = 0 then rz (0 : Int32) T_1 else bd (fX10_within n p1 (0 : Int32) (1000000 : Int32) T_1) (fun r_4 T_3 => if ¬ r_4 = 0 then ck p0 6 (nm (sA T_3 10 p0 p1) (fun T_5 => rz (1 : Int32) T_5)) else rz (0 : Int32) T_3)) else bd (fX10_within n p1 (1 : Int32) (1000000 : Int32) T) (fun r_7 T_6 => if ¬ r_7 = 0 then nm (uI T_6 305 p1) (fun T_8 => rz (1 : Int32) T_8) else rz (0 : Int32) T_6)
set_option maxHeartbeats 4000000 in
set_option maxRecDepth 100000 in
theorem mtX10_price (l : Launch) (X : XT) (n : Nat) (p0 : Int32) (p1 : Int32) (T T' : TS) (r : Int32) (h : fX10_price n p0 p1 T = some (r, T')) : Met l yX10_price wsX10_price (RM 1) (PreX X [.ref (ad X 0), .int p0, .int p1] T) (QQ X (some (.int r)) T') 0 0 (xA X) := by
  refine q_start (by decide) rfl (Nat.le_of_ble_eq_true rfl) ?_
  intro k hk C
  subst hk
  show GW k T 0 [(0, .ref (ad k.1 0)), (1, .int p0), (2, .int p1)] []
  unfold fX10_price at h
  refine q_iload_n C dX10_price_0 rfl 1 rfl ?_
  refine q_iconst (v := -1) C dX10_price_1 (by decide) ?_
  refine q_icmp_ne (tgt := 27) C dX10_price_2 (by decide) h (fun c h => ?_) (fun c h => ?_)
  · refine q_aload_n C dX10_price_27 rfl 0 rfl ?_
    refine q_get (j := 0) C dX10_price_28 (wE_0 _ _) rfl (by decide) rfl inn_X10_price_10 (by decide +kernel) rfl ?_
    refine q_iload_n C dX10_price_31 rfl 1 rfl ?_
    obtain ⟨r_2, T_1, hc, h⟩ := bd_some h
    refine q_callV (st' := [.int r_2]) C dX10_price_32 [.int p0] [] (mtX4_isWidth l _ n _ _ _ _ hc) gX10_price_X4_isWidth rfl hd_X4_isWidth (by decide) (by decide) (wE_1 _ _) rfl rfl rfl (Nat.le_of_ble_eq_true rfl) rfl ?_
    clear hc
    refine q_if_eq (tgt := 48) C dX10_price_35 (by decide) h (fun c h => ?_) (fun c h => ?_)
    · refine q_iconst (v := 0) C dX10_price_48 (by decide) ?_
      exact q_zreturn C dX10_price_49 h
    · refine q_iload_n C dX10_price_38 rfl 2 rfl ?_
      refine q_iconst (v := 0) C dX10_price_39 (by decide) ?_
      refine q_ldc (v := 1000000) C dX10_price_40 (by decide +kernel) ?_
      obtain ⟨r_4, T_3, hc, h⟩ := bd_some h
      refine q_callS (st' := [.int r_4]) C dX10_price_42 [.int p1, .int (0 : Int32), .int (1000000 : Int32)] [] (mtX10_within l _ n _ _ _ _ _ _ hc) gX10_price_X10_within rfl hd_X10_within (by decide) (by decide) rfl rfl (Nat.le_of_ble_eq_true rfl) rfl ?_
      clear hc
      refine q_if_ne (tgt := 50) C dX10_price_45 (by decide) h (fun c h => ?_) (fun c h => ?_)
      · refine q_aload_n C dX10_price_50 rfl 0 rfl ?_
        refine q_get (j := 2) C dX10_price_51 (wE_0 _ _) rfl (by decide) rfl inn_X10_price_10 (by decide +kernel) rfl ?_
        refine q_get (j := 4) C dX10_price_54 (wE_6 _ _) rfl (by decide) rfl inn_X10_price_6 (by decide +kernel) rfl ?_
        refine q_iload_n C dX10_price_57 rfl 1 rfl ?_
        refine q_iload_n C dX10_price_58 rfl 2 rfl ?_
        refine q_iast C dX10_price_59 (wE_10 _ _) (wS_10 _ _) h (fun T_5 h => ?_)
        refine q_iconst (v := 1) C dX10_price_60 (by decide) ?_
        exact q_zreturn C dX10_price_61 h
      · refine q_iconst (v := 0) C dX10_price_48 (by decide) ?_
        exact q_zreturn C dX10_price_49 h
  · refine q_iload_n C dX10_price_5 rfl 2 rfl ?_
    refine q_iconst (v := 1) C dX10_price_6 (by decide) ?_
    refine q_ldc (v := 1000000) C dX10_price_7 (by decide +kernel) ?_
    obtain ⟨r_7, T_6, hc, h⟩ := bd_some h
    refine q_callS (st' := [.int r_7]) C dX10_price_9 [.int p1, .int (1 : Int32), .int (1000000 : Int32)] [] (mtX10_within l _ n _ _ _ _ _ _ hc) gX10_price_X10_within rfl hd_X10_within (by decide) (by decide) rfl rfl (Nat.le_of_ble_eq_true rfl) rfl ?_
    clear hc
    refine q_if_ne (tgt := 17) C dX10_price_12 (by decide) h (fun c h => ?_) (fun c h => ?_)
    · refine q_aload_n C dX10_price_17 rfl 0 rfl ?_
      refine q_get (j := 2) C dX10_price_18 (wE_0 _ _) rfl (by decide) rfl inn_X10_price_10 (by decide +kernel) rfl ?_
      refine q_iload_n C dX10_price_21 rfl 2 rfl ?_
      refine q_putI (j := 5) (ty := .int) C dX10_price_22 (wE_6 _ _) (wP_6_5 _ _ _) rfl (by decide) (Nat.le_of_ble_eq_true rfl) tyX6 tyX6_ok nmX6 inn_X10_price_6 (by decide +kernel) rfl rfl (by decide +kernel) rfl rfl h (fun T_8 h => ?_)
      refine q_iconst (v := 1) C dX10_price_25 (by decide) ?_
      exact q_zreturn C dX10_price_26 h
    · refine q_iconst (v := 0) C dX10_price_15 (by decide) ?_
      exact q_zreturn C dX10_price_16 h
def fX10_worthiest_L15 (n : Nat) (y3 : Int32) (kk : Int32 → TS → Option (Int32 × TS)) : Nat → Int32 → Int32 → Int32 → TS → Option (Int32 × TS)
  | 0, _, _, _, _ => none
  | fuel + 1, x1, x2, x4, T => if y3 ≤ x4 then kk x1 T else bd (fX5_codeAt n x4 T) (fun r_4 T_3 => bd (fX6_worthOf n r_4 T_3) (fun r_6 T_5 => if r_6 ≤ x2 then fX10_worthiest_L15 n y3 kk fuel x1 x2 (x4 + 1) T_5 else fX10_worthiest_L15 n y3 kk fuel x4 r_6 (x4 + 1) T_5))
set_option maxHeartbeats 4000000 in
set_option maxRecDepth 100000 in
theorem lpX10_worthiest_L15 {l : Launch} {k : KT} {n : Nat} {y3 : Int32} {kk : Int32 → TS → Option (Int32 × TS)} {r : Int32} {T' : TS} (C : CX l k 6 cX10_worthiest RX10 wsX10_worthiest 12 (some .int) (some (.int r), T')) (hk : ∀ e1 T1, kk e1 T1 = some (r, T') → GW k T1 57 [(1, .int e1)] []) : ∀ (fuel : Nat) (x1 : Int32) (x2 : Int32) (x4 : Int32) (T : TS), fX10_worthiest_L15 n y3 kk fuel x1 x2 x4 T = some (r, T') → GW k T 15 [(0, .ref (ad k.1 0)), (1, .int x1), (2, .int x2), (3, .int y3), (4, .int x4)] [] := by
  intro fuel
  induction fuel with
  | zero => intro x1 x2 x4 T h; cases h
  | succ fuel ih =>
    intro x1 x2 x4 T h
    rw [fX10_worthiest_L15] at h
    refine q_iload C dX10_worthiest_15 4 rfl ?_
    refine q_iload_n C dX10_worthiest_17 rfl 3 rfl ?_
    refine q_icmp_ge (tgt := 57) C dX10_worthiest_18 (by decide) h (fun c h => ?_) (fun c h => ?_)
    · refine q_sub [1] rfl ?_
      exact hk _ _ h
    · refine q_aload_n C dX10_worthiest_21 rfl 0 rfl ?_
      refine q_get (j := 2) C dX10_worthiest_22 (wE_0 _ _) rfl (by decide) rfl inn_X10_worthiest_10 (by decide +kernel) rfl ?_
      refine q_aload_n C dX10_worthiest_25 rfl 0 rfl ?_
      refine q_get (j := 1) C dX10_worthiest_26 (wE_0 _ _) rfl (by decide) rfl inn_X10_worthiest_10 (by decide +kernel) rfl ?_
      refine q_iload C dX10_worthiest_29 4 rfl ?_
      obtain ⟨r_4, T_3, hc, h⟩ := bd_some h
      refine q_callV (st' := [.int r_4, .ref (ad k.1 6)]) C dX10_worthiest_31 [.int x4] [.ref (ad k.1 6)] (mtX5_codeAt l _ n _ _ _ _ hc) gX10_worthiest_X5_codeAt rfl hd_X5_codeAt (by decide) (by decide) (wE_4 _ _) rfl rfl rfl (Nat.le_of_ble_eq_true rfl) rfl ?_
      clear hc
      obtain ⟨r_6, T_5, hc, h⟩ := bd_some h
      refine q_callV (st' := [.int r_6]) C dX10_worthiest_34 [.int r_4] [] (mtX6_worthOf l _ n _ _ _ _ hc) gX10_worthiest_X6_worthOf rfl hd_X6_worthOf (by decide) (by decide) (wE_6 _ _) rfl rfl rfl (Nat.le_of_ble_eq_true rfl) rfl ?_
      clear hc
      refine q_istore (lv' := [(0, .ref (ad k.1 0)), (1, .int x1), (2, .int x2), (3, .int y3), (4, .int x4), (5, .int r_6)]) C dX10_worthiest_37 (by decide) rfl ?_
      refine q_iload C dX10_worthiest_39 5 rfl ?_
      refine q_iload_n C dX10_worthiest_41 rfl 2 rfl ?_
      refine q_icmp_le (tgt := 51) C dX10_worthiest_42 (by decide) h (fun c h => ?_) (fun c h => ?_)
      · refine q_iinc (j := 4) (v := 1) (lv' := [(0, .ref (ad k.1 0)), (1, .int x1), (2, .int x2), (3, .int y3), (4, .int (x4 + 1)), (5, .int r_6)]) C dX10_worthiest_51 rfl (by decide) (by decide) rfl ?_
        refine q_goto (tgt := 15) C dX10_worthiest_54 (by decide) ?_
        refine q_sub [0, 1, 2, 3, 4] rfl ?_
        exact ih _ _ _ _ h
      · refine q_iload C dX10_worthiest_45 5 rfl ?_
        refine q_istore_n (lv' := [(0, .ref (ad k.1 0)), (1, .int x1), (2, .int r_6), (3, .int y3), (4, .int x4), (5, .int r_6)]) C dX10_worthiest_47 rfl (by decide) rfl ?_
        refine q_iload C dX10_worthiest_48 4 rfl ?_
        refine q_istore_n (lv' := [(0, .ref (ad k.1 0)), (1, .int x4), (2, .int r_6), (3, .int y3), (4, .int x4), (5, .int r_6)]) C dX10_worthiest_50 rfl (by decide) rfl ?_
        refine q_iinc (j := 4) (v := 1) (lv' := [(0, .ref (ad k.1 0)), (1, .int x4), (2, .int r_6), (3, .int y3), (4, .int (x4 + 1)), (5, .int r_6)]) C dX10_worthiest_51 rfl (by decide) (by decide) rfl ?_
        refine q_goto (tgt := 15) C dX10_worthiest_54 (by decide) ?_
        refine q_sub [0, 1, 2, 3, 4] rfl ?_
        exact ih _ _ _ _ h
def fX10_worthiest (n : Nat) (T : TS) : Option (Int32 × TS) := bd (fX5_count n T) (fun r_2 T_1 => fX10_worthiest_L15 n r_2 (fun e1_7 T_8 => some (e1_7, T_8)) n (-1 : Int32) (-1 : Int32) (0 : Int32) T_1)
set_option maxHeartbeats 4000000 in
set_option maxRecDepth 100000 in
theorem mtX10_worthiest (l : Launch) (X : XT) (n : Nat) (T T' : TS) (r : Int32) (h : fX10_worthiest n T = some (r, T')) : Met l yX10_worthiest wsX10_worthiest (RM 12) (PreX X [.ref (ad X 0)] T) (QQ X (some (.int r)) T') 0 0 (xA X) := by
  refine q_start (by decide) rfl (Nat.le_of_ble_eq_true rfl) ?_
  intro k hk C
  subst hk
  show GW k T 0 [(0, .ref (ad k.1 0))] []
  unfold fX10_worthiest at h
  refine q_iconst (v := -1) C dX10_worthiest_0 (by decide) ?_
  refine q_istore_n (lv' := [(0, .ref (ad k.1 0)), (1, .int (-1 : Int32))]) C dX10_worthiest_1 rfl (by decide) rfl ?_
  refine q_iconst (v := -1) C dX10_worthiest_2 (by decide) ?_
  refine q_istore_n (lv' := [(0, .ref (ad k.1 0)), (1, .int (-1 : Int32)), (2, .int (-1 : Int32))]) C dX10_worthiest_3 rfl (by decide) rfl ?_
  refine q_aload_n C dX10_worthiest_4 rfl 0 rfl ?_
  refine q_get (j := 1) C dX10_worthiest_5 (wE_0 _ _) rfl (by decide) rfl inn_X10_worthiest_10 (by decide +kernel) rfl ?_
  obtain ⟨r_2, T_1, hc, h⟩ := bd_some h
  refine q_callV (st' := [.int r_2]) C dX10_worthiest_8 [] [] (mtX5_count l _ n _ _ _ hc) gX10_worthiest_X5_count rfl hd_X5_count (by decide) (by decide) (wE_4 _ _) rfl rfl rfl (Nat.le_of_ble_eq_true rfl) rfl ?_
  clear hc
  refine q_istore_n (lv' := [(0, .ref (ad k.1 0)), (1, .int (-1 : Int32)), (2, .int (-1 : Int32)), (3, .int r_2)]) C dX10_worthiest_11 rfl (by decide) rfl ?_
  refine q_iconst (v := 0) C dX10_worthiest_12 (by decide) ?_
  refine q_istore (lv' := [(0, .ref (ad k.1 0)), (1, .int (-1 : Int32)), (2, .int (-1 : Int32)), (3, .int r_2), (4, .int (0 : Int32))]) C dX10_worthiest_13 (by decide) rfl ?_
  refine q_sub [0, 1, 2, 3, 4] rfl ?_
  refine lpX10_worthiest_L15 C (fun e1_7 T_8 h => ?_) _ _ _ _ _ h
  refine q_iload_n C dX10_worthiest_57 rfl 0 rfl ?_
  exact q_ireturn C dX10_worthiest_58 h
def fX10_best (n : Nat) (T : TS) : Option (Int32 × TS) := bd (fX5_isOverfull n T) (fun r_2 T_1 => if r_2 = 0 then bd (fX10_worthiest n T_1) (fun r_4 T_3 => some (r_4, T_3)) else some ((-1 : Int32), T_1))
set_option maxHeartbeats 4000000 in
set_option maxRecDepth 100000 in
theorem mtX10_best (l : Launch) (X : XT) (n : Nat) (T T' : TS) (r : Int32) (h : fX10_best n T = some (r, T')) : Met l yX10_best wsX10_best (RM 13) (PreX X [.ref (ad X 0)] T) (QQ X (some (.int r)) T') 0 0 (xA X) := by
  refine q_start (by decide) rfl (Nat.le_of_ble_eq_true rfl) ?_
  intro k hk C
  subst hk
  show GW k T 0 [(0, .ref (ad k.1 0))] []
  unfold fX10_best at h
  refine q_aload_n C dX10_best_0 rfl 0 rfl ?_
  refine q_get (j := 1) C dX10_best_1 (wE_0 _ _) rfl (by decide) rfl inn_X10_best_10 (by decide +kernel) rfl ?_
  obtain ⟨r_2, T_1, hc, h⟩ := bd_some h
  refine q_callV (st' := [.int r_2]) C dX10_best_4 [] [] (mtX5_isOverfull l _ n _ _ _ hc) gX10_best_X5_isOverfull rfl hd_X5_isOverfull (by decide) (by decide) (wE_4 _ _) rfl rfl rfl (Nat.le_of_ble_eq_true rfl) rfl ?_
  clear hc
  refine q_if_eq (tgt := 14) C dX10_best_7 (by decide) h (fun c h => ?_) (fun c h => ?_)
  · refine q_aload_n C dX10_best_14 rfl 0 rfl ?_
    obtain ⟨r_4, T_3, hc, h⟩ := bd_some h
    refine q_callV (st' := [.int r_4]) C dX10_best_15 [] [] (mtX10_worthiest l _ n _ _ _ hc) gX10_best_X10_worthiest rfl hd_X10_worthiest (by decide) (by decide) (wE_0 _ _) rfl rfl rfl (Nat.le_of_ble_eq_true rfl) rfl ?_
    clear hc
    exact q_ireturn C dX10_best_18 h
  · refine q_iconst (v := -1) C dX10_best_10 (by decide) ?_
    refine q_goto (tgt := 18) C dX10_best_11 (by decide) ?_
    exact q_ireturn C dX10_best_18 h
def fX10_bound (n : Nat) (T : TS) : Option (Int32 × TS) := bd (fX5_isOverfull n T) (fun r_2 T_1 => if r_2 = 0 then bd (fX10_worthiest n T_1) (fun r_4 T_3 => if r_4 = (-1 : Int32) then bd (fX6_worthOfWanted n T_3) (fun r_6 T_5 => bd (fX10_quotient n ((r_6 + (gI T_5 305)) - (1 : Int32)) (gI T_5 305) T_5) (fun r_8 T_7 => some (r_8, T_7))) else bd (fX5_codeAt n r_4 T_3) (fun r_10 T_9 => bd (fX6_worthOf n r_10 T_9) (fun r_12 T_11 => if r_12 ≤ (gI T_11 305) then bd (fX6_worthOfWanted n T_11) (fun r_14 T_13 => bd (fX10_quotient n ((r_14 + (gI T_13 305)) - (1 : Int32)) (gI T_13 305) T_13) (fun r_16 T_15 => some (r_16, T_15))) else some ((-1 : Int32), T_11)))) else some ((-1 : Int32), T_1))
set_option maxHeartbeats 4000000 in
set_option maxRecDepth 100000 in
theorem mtX10_bound (l : Launch) (X : XT) (n : Nat) (T T' : TS) (r : Int32) (h : fX10_bound n T = some (r, T')) : Met l yX10_bound wsX10_bound (RM 13) (PreX X [.ref (ad X 0)] T) (QQ X (some (.int r)) T') 0 0 (xA X) := by
  refine q_start (by decide) rfl (Nat.le_of_ble_eq_true rfl) ?_
  intro k hk C
  subst hk
  show GW k T 0 [(0, .ref (ad k.1 0))] []
  unfold fX10_bound at h
  refine q_aload_n C dX10_bound_0 rfl 0 rfl ?_
  refine q_get (j := 1) C dX10_bound_1 (wE_0 _ _) rfl (by decide) rfl inn_X10_bound_10 (by decide +kernel) rfl ?_
  obtain ⟨r_2, T_1, hc, h⟩ := bd_some h
  refine q_callV (st' := [.int r_2]) C dX10_bound_4 [] [] (mtX5_isOverfull l _ n _ _ _ hc) gX10_bound_X5_isOverfull rfl hd_X5_isOverfull (by decide) (by decide) (wE_4 _ _) rfl rfl rfl (Nat.le_of_ble_eq_true rfl) rfl ?_
  clear hc
  refine q_if_eq (tgt := 12) C dX10_bound_7 (by decide) h (fun c h => ?_) (fun c h => ?_)
  · refine q_aload_n C dX10_bound_12 rfl 0 rfl ?_
    obtain ⟨r_4, T_3, hc, h⟩ := bd_some h
    refine q_callV (st' := [.int r_4]) C dX10_bound_13 [] [] (mtX10_worthiest l _ n _ _ _ hc) gX10_bound_X10_worthiest rfl hd_X10_worthiest (by decide) (by decide) (wE_0 _ _) rfl rfl rfl (Nat.le_of_ble_eq_true rfl) rfl ?_
    clear hc
    refine q_istore_n (lv' := [(0, .ref (ad k.1 0)), (1, .int r_4)]) C dX10_bound_16 rfl (by decide) rfl ?_
    refine q_iload_n C dX10_bound_17 rfl 1 rfl ?_
    refine q_iconst (v := -1) C dX10_bound_18 (by decide) ?_
    refine q_icmp_eq (tgt := 49) C dX10_bound_19 (by decide) h (fun c h => ?_) (fun c h => ?_)
    · refine q_aload_n C dX10_bound_49 rfl 0 rfl ?_
      refine q_get (j := 2) C dX10_bound_50 (wE_0 _ _) rfl (by decide) rfl inn_X10_bound_10 (by decide +kernel) rfl ?_
      obtain ⟨r_6, T_5, hc, h⟩ := bd_some h
      refine q_callV (st' := [.int r_6]) C dX10_bound_53 [] [] (mtX6_worthOfWanted l _ n _ _ _ hc) gX10_bound_X6_worthOfWanted rfl hd_X6_worthOfWanted (by decide) (by decide) (wE_6 _ _) rfl rfl rfl (Nat.le_of_ble_eq_true rfl) rfl ?_
      clear hc
      refine q_aload_n C dX10_bound_56 rfl 0 rfl ?_
      refine q_get (j := 2) C dX10_bound_57 (wE_0 _ _) rfl (by decide) rfl inn_X10_bound_10 (by decide +kernel) rfl ?_
      refine q_get (j := 5) C dX10_bound_60 (wE_6 _ _) rfl (by decide) rfl inn_X10_bound_6 (by decide +kernel) rfl ?_
      refine q_iadd C dX10_bound_63 ?_
      refine q_iconst (v := 1) C dX10_bound_64 (by decide) ?_
      refine q_isub C dX10_bound_65 ?_
      refine q_aload_n C dX10_bound_66 rfl 0 rfl ?_
      refine q_get (j := 2) C dX10_bound_67 (wE_0 _ _) rfl (by decide) rfl inn_X10_bound_10 (by decide +kernel) rfl ?_
      refine q_get (j := 5) C dX10_bound_70 (wE_6 _ _) rfl (by decide) rfl inn_X10_bound_6 (by decide +kernel) rfl ?_
      obtain ⟨r_8, T_7, hc, h⟩ := bd_some h
      refine q_callS (st' := [.int r_8]) C dX10_bound_73 [.int ((r_6 + (gI T_5 305)) - (1 : Int32)), .int (gI T_5 305)] [] (mtX10_quotient l _ n _ _ _ _ _ hc) gX10_bound_X10_quotient rfl hd_X10_quotient (by decide) (by decide) rfl rfl (Nat.le_of_ble_eq_true rfl) rfl ?_
      clear hc
      exact q_ireturn C dX10_bound_76 h
    · refine q_aload_n C dX10_bound_22 rfl 0 rfl ?_
      refine q_get (j := 2) C dX10_bound_23 (wE_0 _ _) rfl (by decide) rfl inn_X10_bound_10 (by decide +kernel) rfl ?_
      refine q_aload_n C dX10_bound_26 rfl 0 rfl ?_
      refine q_get (j := 1) C dX10_bound_27 (wE_0 _ _) rfl (by decide) rfl inn_X10_bound_10 (by decide +kernel) rfl ?_
      refine q_iload_n C dX10_bound_30 rfl 1 rfl ?_
      obtain ⟨r_10, T_9, hc, h⟩ := bd_some h
      refine q_callV (st' := [.int r_10, .ref (ad k.1 6)]) C dX10_bound_31 [.int r_4] [.ref (ad k.1 6)] (mtX5_codeAt l _ n _ _ _ _ hc) gX10_bound_X5_codeAt rfl hd_X5_codeAt (by decide) (by decide) (wE_4 _ _) rfl rfl rfl (Nat.le_of_ble_eq_true rfl) rfl ?_
      clear hc
      obtain ⟨r_12, T_11, hc, h⟩ := bd_some h
      refine q_callV (st' := [.int r_12]) C dX10_bound_34 [.int r_10] [] (mtX6_worthOf l _ n _ _ _ _ hc) gX10_bound_X6_worthOf rfl hd_X6_worthOf (by decide) (by decide) (wE_6 _ _) rfl rfl rfl (Nat.le_of_ble_eq_true rfl) rfl ?_
      clear hc
      refine q_aload_n C dX10_bound_37 rfl 0 rfl ?_
      refine q_get (j := 2) C dX10_bound_38 (wE_0 _ _) rfl (by decide) rfl inn_X10_bound_10 (by decide +kernel) rfl ?_
      refine q_get (j := 5) C dX10_bound_41 (wE_6 _ _) rfl (by decide) rfl inn_X10_bound_6 (by decide +kernel) rfl ?_
      refine q_icmp_le (tgt := 49) C dX10_bound_44 (by decide) h (fun c h => ?_) (fun c h => ?_)
      · refine q_aload_n C dX10_bound_49 rfl 0 rfl ?_
        refine q_get (j := 2) C dX10_bound_50 (wE_0 _ _) rfl (by decide) rfl inn_X10_bound_10 (by decide +kernel) rfl ?_
        obtain ⟨r_14, T_13, hc, h⟩ := bd_some h
        refine q_callV (st' := [.int r_14]) C dX10_bound_53 [] [] (mtX6_worthOfWanted l _ n _ _ _ hc) gX10_bound_X6_worthOfWanted rfl hd_X6_worthOfWanted (by decide) (by decide) (wE_6 _ _) rfl rfl rfl (Nat.le_of_ble_eq_true rfl) rfl ?_
        clear hc
        refine q_aload_n C dX10_bound_56 rfl 0 rfl ?_
        refine q_get (j := 2) C dX10_bound_57 (wE_0 _ _) rfl (by decide) rfl inn_X10_bound_10 (by decide +kernel) rfl ?_
        refine q_get (j := 5) C dX10_bound_60 (wE_6 _ _) rfl (by decide) rfl inn_X10_bound_6 (by decide +kernel) rfl ?_
        refine q_iadd C dX10_bound_63 ?_
        refine q_iconst (v := 1) C dX10_bound_64 (by decide) ?_
        refine q_isub C dX10_bound_65 ?_
        refine q_aload_n C dX10_bound_66 rfl 0 rfl ?_
        refine q_get (j := 2) C dX10_bound_67 (wE_0 _ _) rfl (by decide) rfl inn_X10_bound_10 (by decide +kernel) rfl ?_
        refine q_get (j := 5) C dX10_bound_70 (wE_6 _ _) rfl (by decide) rfl inn_X10_bound_6 (by decide +kernel) rfl ?_
        obtain ⟨r_16, T_15, hc, h⟩ := bd_some h
        refine q_callS (st' := [.int r_16]) C dX10_bound_73 [.int ((r_14 + (gI T_13 305)) - (1 : Int32)), .int (gI T_13 305)] [] (mtX10_quotient l _ n _ _ _ _ _ hc) gX10_bound_X10_quotient rfl hd_X10_quotient (by decide) (by decide) rfl rfl (Nat.le_of_ble_eq_true rfl) rfl ?_
        clear hc
        exact q_ireturn C dX10_bound_76 h
      · refine q_iconst (v := -1) C dX10_bound_47 (by decide) ?_
        exact q_ireturn C dX10_bound_48 h
  · refine q_iconst (v := -1) C dX10_bound_10 (by decide) ?_
    exact q_ireturn C dX10_bound_11 h
def fX10_isWantedWithoutRoom_L2 (n : Nat) (kk : TS → Option (Int32 × TS)) : Nat → Int32 → TS → Option (Int32 × TS)
  | 0, _, _ => none
  | fuel + 1, x1, T => if (gI T 55) ≤ x1 then kk T else bd (fX6_wanted n x1 T) (fun r_2 T_1 => if r_2 ≤ 0 then fX10_isWantedWithoutRoom_L2 n kk fuel (x1 + 1) T_1 else ck x1 6 (bd (fX4_room n T_1) (fun r_4 T_3 => if (gA T_1 2 (Int32.toNatClampNeg x1)) ≤ r_4 then fX10_isWantedWithoutRoom_L2 n kk fuel (x1 + 1) T_3 else rz (1 : Int32) T_3)))
set_option maxHeartbeats 4000000 in
set_option maxRecDepth 100000 in
theorem lpX10_isWantedWithoutRoom_L2 {l : Launch} {k : KT} {n : Nat} {kk : TS → Option (Int32 × TS)} {r : Int32} {T' : TS} (C : CX l k 2 cX10_isWantedWithoutRoom RX10 wsX10_isWantedWithoutRoom 2 (some .boolean) (some (.int r), T')) (hk : ∀ T1, kk T1 = some (r, T') → GW k T1 51 [] []) : ∀ (fuel : Nat) (x1 : Int32) (T : TS), fX10_isWantedWithoutRoom_L2 n kk fuel x1 T = some (r, T') → GW k T 2 [(0, .ref (ad k.1 0)), (1, .int x1)] [] := by
  intro fuel
  induction fuel with
  | zero => intro x1 T h; cases h
  | succ fuel ih =>
    intro x1 T h
    rw [fX10_isWantedWithoutRoom_L2] at h
    refine q_iload_n C dX10_isWantedWithoutRoom_2 rfl 1 rfl ?_
    refine q_aload_n C dX10_isWantedWithoutRoom_3 rfl 0 rfl ?_
    refine q_get (j := 0) C dX10_isWantedWithoutRoom_4 (wE_0 _ _) rfl (by decide) rfl inn_X10_isWantedWithoutRoom_10 (by decide +kernel) rfl ?_
    refine q_get (j := 5) C dX10_isWantedWithoutRoom_7 (wE_1 _ _) rfl (by decide) rfl inn_X10_isWantedWithoutRoom_4 (by decide +kernel) rfl ?_
    refine q_icmp_ge (tgt := 51) C dX10_isWantedWithoutRoom_10 (by decide) h (fun c h => ?_) (fun c h => ?_)
    · refine q_sub [] rfl ?_
      exact hk _ h
    · refine q_aload_n C dX10_isWantedWithoutRoom_13 rfl 0 rfl ?_
      refine q_get (j := 2) C dX10_isWantedWithoutRoom_14 (wE_0 _ _) rfl (by decide) rfl inn_X10_isWantedWithoutRoom_10 (by decide +kernel) rfl ?_
      refine q_iload_n C dX10_isWantedWithoutRoom_17 rfl 1 rfl ?_
      obtain ⟨r_2, T_1, hc, h⟩ := bd_some h
      refine q_callV (st' := [.int r_2]) C dX10_isWantedWithoutRoom_18 [.int x1] [] (mtX6_wanted l _ n _ _ _ _ hc) gX10_isWantedWithoutRoom_X6_wanted rfl hd_X6_wanted (by decide) (by decide) (wE_6 _ _) rfl rfl rfl (Nat.le_of_ble_eq_true rfl) rfl ?_
      clear hc
      refine q_if_le (tgt := 45) C dX10_isWantedWithoutRoom_21 (by decide) h (fun c h => ?_) (fun c h => ?_)
      · refine q_iinc (j := 1) (v := 1) (lv' := [(0, .ref (ad k.1 0)), (1, .int (x1 + 1))]) C dX10_isWantedWithoutRoom_45 rfl (by decide) (by decide) rfl ?_
        refine q_goto (tgt := 2) C dX10_isWantedWithoutRoom_48 (by decide) ?_
        refine q_sub [0, 1] rfl ?_
        exact ih _ _ h
      · refine q_aload_n C dX10_isWantedWithoutRoom_24 rfl 0 rfl ?_
        refine q_get (j := 0) C dX10_isWantedWithoutRoom_25 (wE_0 _ _) rfl (by decide) rfl inn_X10_isWantedWithoutRoom_10 (by decide +kernel) rfl ?_
        refine q_get (j := 6) C dX10_isWantedWithoutRoom_28 (wE_1 _ _) rfl (by decide) rfl inn_X10_isWantedWithoutRoom_4 (by decide +kernel) rfl ?_
        refine q_iload_n C dX10_isWantedWithoutRoom_31 rfl 1 rfl ?_
        refine q_iald C dX10_isWantedWithoutRoom_32 (wE_2 _ _) h (fun h => ?_)
        refine q_aload_n C dX10_isWantedWithoutRoom_33 rfl 0 rfl ?_
        refine q_get (j := 0) C dX10_isWantedWithoutRoom_34 (wE_0 _ _) rfl (by decide) rfl inn_X10_isWantedWithoutRoom_10 (by decide +kernel) rfl ?_
        obtain ⟨r_4, T_3, hc, h⟩ := bd_some h
        refine q_callV (st' := [.int r_4, .int (gA T_1 2 (Int32.toNatClampNeg x1))]) C dX10_isWantedWithoutRoom_37 [] [.int (gA T_1 2 (Int32.toNatClampNeg x1))] (mtX4_room l _ n _ _ _ hc) gX10_isWantedWithoutRoom_X4_room rfl hd_X4_room (by decide) (by decide) (wE_1 _ _) rfl rfl rfl (Nat.le_of_ble_eq_true rfl) rfl ?_
        clear hc
        refine q_icmp_le (tgt := 45) C dX10_isWantedWithoutRoom_40 (by decide) h (fun c h => ?_) (fun c h => ?_)
        · refine q_iinc (j := 1) (v := 1) (lv' := [(0, .ref (ad k.1 0)), (1, .int (x1 + 1))]) C dX10_isWantedWithoutRoom_45 rfl (by decide) (by decide) rfl ?_
          refine q_goto (tgt := 2) C dX10_isWantedWithoutRoom_48 (by decide) ?_
          refine q_sub [0, 1] rfl ?_
          exact ih _ _ h
        · refine q_iconst (v := 1) C dX10_isWantedWithoutRoom_43 (by decide) ?_
          exact q_zreturn C dX10_isWantedWithoutRoom_44 h
def fX10_isWantedWithoutRoom (n : Nat) (T : TS) : Option (Int32 × TS) := fX10_isWantedWithoutRoom_L2 n (fun T_5 => rz (0 : Int32) T_5) n (0 : Int32) T
set_option maxHeartbeats 4000000 in
set_option maxRecDepth 100000 in
theorem mtX10_isWantedWithoutRoom (l : Launch) (X : XT) (n : Nat) (T T' : TS) (r : Int32) (h : fX10_isWantedWithoutRoom n T = some (r, T')) : Met l yX10_isWantedWithoutRoom wsX10_isWantedWithoutRoom (RM 2) (PreX X [.ref (ad X 0)] T) (QQ X (some (.int r)) T') 0 0 (xA X) := by
  refine q_start (by decide) rfl (Nat.le_of_ble_eq_true rfl) ?_
  intro k hk C
  subst hk
  show GW k T 0 [(0, .ref (ad k.1 0))] []
  unfold fX10_isWantedWithoutRoom at h
  refine q_iconst (v := 0) C dX10_isWantedWithoutRoom_0 (by decide) ?_
  refine q_istore_n (lv' := [(0, .ref (ad k.1 0)), (1, .int (0 : Int32))]) C dX10_isWantedWithoutRoom_1 rfl (by decide) rfl ?_
  refine q_sub [0, 1] rfl ?_
  refine lpX10_isWantedWithoutRoom_L2 C (fun T_5 h => ?_) _ _ _ h
  refine q_iconst (v := 0) C dX10_isWantedWithoutRoom_51 (by decide) ?_
  exact q_zreturn C dX10_isWantedWithoutRoom_52 h
def fX10_greedy_L28 (n : Nat) (kk : Int32 → TS → Option (Int32 × TS)) : Nat → Int32 → Int32 → TS → Option (Int32 × TS)
  | 0, _, _, _ => none
  | fuel + 1, x1, x2, T => if (240 : Int32) ≤ x2 then kk x1 T else bd (fX6_isAnyOpen n T) (fun r_8 T_7 => if r_8 = 0 then kk x1 T_7 else bd (fX6_takeGreedily n T_7) (fun r_10 T_9 => bd (fX8_addRoll_17 n r_10 T_9) (fun r_12 T_11 => if ¬ r_12 = 0 then fX10_greedy_L28 n kk fuel (x1 + 1) (x2 + 1) T_11 else some ((-3 : Int32), T_11))))
set_option maxHeartbeats 4000000 in
set_option maxRecDepth 100000 in
theorem lpX10_greedy_L28 {l : Launch} {k : KT} {n : Nat} {kk : Int32 → TS → Option (Int32 × TS)} {r : Int32} {T' : TS} (C : CX l k 3 cX10_greedy RX10 wsX10_greedy 3 (some .int) (some (.int r), T')) (hk : ∀ e1 T1, kk e1 T1 = some (r, T') → GW k T1 74 [(0, .ref (ad k.1 0)), (1, .int e1)] []) : ∀ (fuel : Nat) (x1 : Int32) (x2 : Int32) (T : TS), fX10_greedy_L28 n kk fuel x1 x2 T = some (r, T') → GW k T 28 [(0, .ref (ad k.1 0)), (1, .int x1), (2, .int x2)] [] := by
  intro fuel
  induction fuel with
  | zero => intro x1 x2 T h; cases h
  | succ fuel ih =>
    intro x1 x2 T h
    rw [fX10_greedy_L28] at h
    refine q_iload_n C dX10_greedy_28 rfl 2 rfl ?_
    refine q_sipush (v := 240) C dX10_greedy_29 (by decide) ?_
    refine q_icmp_ge (tgt := 74) C dX10_greedy_32 (by decide) h (fun c h => ?_) (fun c h => ?_)
    · refine q_sub [0, 1] rfl ?_
      exact hk _ _ h
    · refine q_aload_n C dX10_greedy_35 rfl 0 rfl ?_
      refine q_get (j := 2) C dX10_greedy_36 (wE_0 _ _) rfl (by decide) rfl inn_X10_greedy_10 (by decide +kernel) rfl ?_
      obtain ⟨r_8, T_7, hc, h⟩ := bd_some h
      refine q_callV (st' := [.int r_8]) C dX10_greedy_39 [] [] (mtX6_isAnyOpen l _ n _ _ _ hc) gX10_greedy_X6_isAnyOpen rfl hd_X6_isAnyOpen (by decide) (by decide) (wE_6 _ _) rfl rfl rfl (Nat.le_of_ble_eq_true rfl) rfl ?_
      clear hc
      refine q_if_eq (tgt := 74) C dX10_greedy_42 (by decide) h (fun c h => ?_) (fun c h => ?_)
      · refine q_sub [0, 1] rfl ?_
        exact hk _ _ h
      · refine q_aload_n C dX10_greedy_45 rfl 0 rfl ?_
        refine q_get (j := 5) C dX10_greedy_46 (wE_0 _ _) rfl (by decide) rfl inn_X10_greedy_10 (by decide +kernel) rfl ?_
        refine q_aload_n C dX10_greedy_49 rfl 0 rfl ?_
        refine q_get (j := 2) C dX10_greedy_50 (wE_0 _ _) rfl (by decide) rfl inn_X10_greedy_10 (by decide +kernel) rfl ?_
        obtain ⟨r_10, T_9, hc, h⟩ := bd_some h
        refine q_callV (st' := [.int r_10, .ref (ad k.1 17)]) C dX10_greedy_53 [] [.ref (ad k.1 17)] (mtX6_takeGreedily l _ n _ _ _ hc) gX10_greedy_X6_takeGreedily rfl hd_X6_takeGreedily (by decide) (by decide) (wE_6 _ _) rfl rfl rfl (Nat.le_of_ble_eq_true rfl) rfl ?_
        clear hc
        obtain ⟨r_12, T_11, hc, h⟩ := bd_some h
        refine q_callV (st' := [.int r_12]) C dX10_greedy_56 [.int r_10] [] (mtX8_addRoll_17 l _ n _ _ _ _ hc) gX10_greedy_X8_addRoll rfl hd_X8_addRoll (by decide) (by decide) (wE_17 _ _) rfl rfl rfl (Nat.le_of_ble_eq_true rfl) rfl ?_
        clear hc
        refine q_if_ne (tgt := 65) C dX10_greedy_59 (by decide) h (fun c h => ?_) (fun c h => ?_)
        · refine q_iinc (j := 1) (v := 1) (lv' := [(0, .ref (ad k.1 0)), (1, .int (x1 + 1)), (2, .int x2)]) C dX10_greedy_65 rfl (by decide) (by decide) rfl ?_
          refine q_iinc (j := 2) (v := 1) (lv' := [(0, .ref (ad k.1 0)), (1, .int (x1 + 1)), (2, .int (x2 + 1))]) C dX10_greedy_68 rfl (by decide) (by decide) rfl ?_
          refine q_goto (tgt := 28) C dX10_greedy_71 (by decide) ?_
          refine q_sub [0, 1, 2] rfl ?_
          exact ih _ _ _ h
        · refine q_bipush (v := -3) C dX10_greedy_62 (by decide) ?_
          exact q_ireturn C dX10_greedy_64 h
def fX10_greedy (n : Nat) (T : TS) : Option (Int32 × TS) := bd (fX10_isWantedWithoutRoom n T) (fun r_2 T_1 => if r_2 = 0 then bv (fX8_clear_17 n T_1) (fun T_3 => bv (fX6_startOpen n T_3) (fun T_5 => fX10_greedy_L28 n (fun e1_13 T_14 => bv (fX8_copyFrom_11_17 n T_14) (fun T_15 => some (e1_13, T_15))) n (0 : Int32) (0 : Int32) T_5)) else some ((-2 : Int32), T_1))
set_option maxHeartbeats 4000000 in
set_option maxRecDepth 100000 in
theorem mtX10_greedy (l : Launch) (X : XT) (n : Nat) (T T' : TS) (r : Int32) (h : fX10_greedy n T = some (r, T')) : Met l yX10_greedy wsX10_greedy (RM 3) (PreX X [.ref (ad X 0)] T) (QQ X (some (.int r)) T') 0 0 (xA X) := by
  refine q_start (by decide) rfl (Nat.le_of_ble_eq_true rfl) ?_
  intro k hk C
  subst hk
  show GW k T 0 [(0, .ref (ad k.1 0))] []
  unfold fX10_greedy at h
  refine q_aload_n C dX10_greedy_0 rfl 0 rfl ?_
  obtain ⟨r_2, T_1, hc, h⟩ := bd_some h
  refine q_callV (st' := [.int r_2]) C dX10_greedy_1 [] [] (mtX10_isWantedWithoutRoom l _ n _ _ _ hc) gX10_greedy_X10_isWantedWithoutRoom rfl hd_X10_isWantedWithoutRoom (by decide) (by decide) (wE_0 _ _) rfl rfl rfl (Nat.le_of_ble_eq_true rfl) rfl ?_
  clear hc
  refine q_if_eq (tgt := 10) C dX10_greedy_4 (by decide) h (fun c h => ?_) (fun c h => ?_)
  · refine q_aload_n C dX10_greedy_10 rfl 0 rfl ?_
    refine q_get (j := 5) C dX10_greedy_11 (wE_0 _ _) rfl (by decide) rfl inn_X10_greedy_10 (by decide +kernel) rfl ?_
    obtain ⟨T_3, hc, h⟩ := bv_some h
    refine q_callV (st' := []) C dX10_greedy_14 [] [] (mtX8_clear_17 l _ n _ _ hc) gX10_greedy_X8_clear rfl hd_X8_clear (by decide) (by decide) (wE_17 _ _) rfl rfl rfl (Nat.le_of_ble_eq_true rfl) rfl ?_
    clear hc
    refine q_aload_n C dX10_greedy_17 rfl 0 rfl ?_
    refine q_get (j := 2) C dX10_greedy_18 (wE_0 _ _) rfl (by decide) rfl inn_X10_greedy_10 (by decide +kernel) rfl ?_
    obtain ⟨T_5, hc, h⟩ := bv_some h
    refine q_callV (st' := []) C dX10_greedy_21 [] [] (mtX6_startOpen l _ n _ _ hc) gX10_greedy_X6_startOpen rfl hd_X6_startOpen (by decide) (by decide) (wE_6 _ _) rfl rfl rfl (Nat.le_of_ble_eq_true rfl) rfl ?_
    clear hc
    refine q_iconst (v := 0) C dX10_greedy_24 (by decide) ?_
    refine q_istore_n (lv' := [(0, .ref (ad k.1 0)), (1, .int (0 : Int32))]) C dX10_greedy_25 rfl (by decide) rfl ?_
    refine q_iconst (v := 0) C dX10_greedy_26 (by decide) ?_
    refine q_istore_n (lv' := [(0, .ref (ad k.1 0)), (1, .int (0 : Int32)), (2, .int (0 : Int32))]) C dX10_greedy_27 rfl (by decide) rfl ?_
    refine q_sub [0, 1, 2] rfl ?_
    refine lpX10_greedy_L28 C (fun e1_13 T_14 h => ?_) _ _ _ _ h
    refine q_aload_n C dX10_greedy_74 rfl 0 rfl ?_
    refine q_get (j := 3) C dX10_greedy_75 (wE_0 _ _) rfl (by decide) rfl inn_X10_greedy_10 (by decide +kernel) rfl ?_
    refine q_aload_n C dX10_greedy_78 rfl 0 rfl ?_
    refine q_get (j := 5) C dX10_greedy_79 (wE_0 _ _) rfl (by decide) rfl inn_X10_greedy_10 (by decide +kernel) rfl ?_
    obtain ⟨T_15, hc, h⟩ := bv_some h
    refine q_callV (st' := []) C dX10_greedy_82 [.ref (ad k.1 17)] [] (mtX8_copyFrom_11_17 l _ n _ _ hc) gX10_greedy_X8_copyFrom rfl hd_X8_copyFrom (by decide) (by decide) (wE_11 _ _) rfl rfl rfl (Nat.le_of_ble_eq_true rfl) rfl ?_
    clear hc
    refine q_iload_n C dX10_greedy_85 rfl 1 rfl ?_
    exact q_ireturn C dX10_greedy_86 h
  · refine q_bipush (v := -2) C dX10_greedy_7 (by decide) ?_
    exact q_ireturn C dX10_greedy_9 h
def fX10_draftFewest_L11 (n : Nat) (y1 : Int32) (kk : TS → Option (Int32 × TS)) : Nat → Int32 → Int32 → TS → Option (Int32 × TS)
  | 0, _, _, _ => none
  | fuel + 1, x2, x3, T => if y1 ≤ x3 then kk T else bd (fX7_firstFrom n x2 T) (fun r_4 T_3 => bd (fX5_codeAt n r_4 T_3) (fun r_6 T_5 => bd (fX8_addRoll_17 n r_6 T_5) (fun r_8 T_7 => if ¬ r_8 = 0 then bv (fX7_take n r_6 T_7) (fun T_9 => fX10_draftFewest_L11 n y1 kk fuel r_4 (x3 + 1) T_9) else rz (0 : Int32) T_7)))
set_option maxHeartbeats 4000000 in
set_option maxRecDepth 100000 in
theorem lpX10_draftFewest_L11 {l : Launch} {k : KT} {n : Nat} {y1 : Int32} {kk : TS → Option (Int32 × TS)} {r : Int32} {T' : TS} (C : CX l k 5 cX10_draftFewest RX10 wsX10_draftFewest 13 (some .boolean) (some (.int r), T')) (hk : ∀ T1, kk T1 = some (r, T') → GW k T1 68 [] []) : ∀ (fuel : Nat) (x2 : Int32) (x3 : Int32) (T : TS), fX10_draftFewest_L11 n y1 kk fuel x2 x3 T = some (r, T') → GW k T 11 [(0, .ref (ad k.1 0)), (1, .int y1), (2, .int x2), (3, .int x3)] [] := by
  intro fuel
  induction fuel with
  | zero => intro x2 x3 T h; cases h
  | succ fuel ih =>
    intro x2 x3 T h
    rw [fX10_draftFewest_L11] at h
    refine q_iload_n C dX10_draftFewest_11 rfl 3 rfl ?_
    refine q_iload_n C dX10_draftFewest_12 rfl 1 rfl ?_
    refine q_icmp_ge (tgt := 68) C dX10_draftFewest_13 (by decide) h (fun c h => ?_) (fun c h => ?_)
    · refine q_sub [] rfl ?_
      exact hk _ h
    · refine q_aload_n C dX10_draftFewest_16 rfl 0 rfl ?_
      refine q_get (j := 10) C dX10_draftFewest_17 (wE_0 _ _) rfl (by decide) rfl inn_X10_draftFewest_10 (by decide +kernel) rfl ?_
      refine q_iload_n C dX10_draftFewest_20 rfl 2 rfl ?_
      refine q_aload_n C dX10_draftFewest_21 rfl 0 rfl ?_
      refine q_get (j := 1) C dX10_draftFewest_22 (wE_0 _ _) rfl (by decide) rfl inn_X10_draftFewest_10 (by decide +kernel) rfl ?_
      obtain ⟨r_4, T_3, hc, h⟩ := bd_some h
      refine q_callV (st' := [.int r_4]) C dX10_draftFewest_25 [.int x2, .ref (ad k.1 4)] [] (mtX7_firstFrom l _ n _ _ _ _ hc) gX10_draftFewest_X7_firstFrom rfl hd_X7_firstFrom (by decide) (by decide) (wE_30 _ _) rfl rfl rfl (Nat.le_of_ble_eq_true rfl) rfl ?_
      clear hc
      refine q_istore_n (lv' := [(0, .ref (ad k.1 0)), (1, .int y1), (2, .int r_4), (3, .int x3)]) C dX10_draftFewest_28 rfl (by decide) rfl ?_
      refine q_aload_n C dX10_draftFewest_29 rfl 0 rfl ?_
      refine q_get (j := 1) C dX10_draftFewest_30 (wE_0 _ _) rfl (by decide) rfl inn_X10_draftFewest_10 (by decide +kernel) rfl ?_
      refine q_iload_n C dX10_draftFewest_33 rfl 2 rfl ?_
      obtain ⟨r_6, T_5, hc, h⟩ := bd_some h
      refine q_callV (st' := [.int r_6]) C dX10_draftFewest_34 [.int r_4] [] (mtX5_codeAt l _ n _ _ _ _ hc) gX10_draftFewest_X5_codeAt rfl hd_X5_codeAt (by decide) (by decide) (wE_4 _ _) rfl rfl rfl (Nat.le_of_ble_eq_true rfl) rfl ?_
      clear hc
      refine q_istore (lv' := [(0, .ref (ad k.1 0)), (1, .int y1), (2, .int r_4), (3, .int x3), (4, .int r_6)]) C dX10_draftFewest_37 (by decide) rfl ?_
      refine q_aload_n C dX10_draftFewest_39 rfl 0 rfl ?_
      refine q_get (j := 5) C dX10_draftFewest_40 (wE_0 _ _) rfl (by decide) rfl inn_X10_draftFewest_10 (by decide +kernel) rfl ?_
      refine q_iload C dX10_draftFewest_43 4 rfl ?_
      obtain ⟨r_8, T_7, hc, h⟩ := bd_some h
      refine q_callV (st' := [.int r_8]) C dX10_draftFewest_45 [.int r_6] [] (mtX8_addRoll_17 l _ n _ _ _ _ hc) gX10_draftFewest_X8_addRoll rfl hd_X8_addRoll (by decide) (by decide) (wE_17 _ _) rfl rfl rfl (Nat.le_of_ble_eq_true rfl) rfl ?_
      clear hc
      refine q_if_ne (tgt := 53) C dX10_draftFewest_48 (by decide) h (fun c h => ?_) (fun c h => ?_)
      · refine q_aload_n C dX10_draftFewest_53 rfl 0 rfl ?_
        refine q_get (j := 10) C dX10_draftFewest_54 (wE_0 _ _) rfl (by decide) rfl inn_X10_draftFewest_10 (by decide +kernel) rfl ?_
        refine q_iload C dX10_draftFewest_57 4 rfl ?_
        obtain ⟨T_9, hc, h⟩ := bv_some h
        refine q_callV (st' := []) C dX10_draftFewest_59 [.int r_6] [] (mtX7_take l _ n _ _ _ hc) gX10_draftFewest_X7_take rfl hd_X7_take (by decide) (by decide) (wE_30 _ _) rfl rfl rfl (Nat.le_of_ble_eq_true rfl) rfl ?_
        clear hc
        refine q_iinc (j := 3) (v := 1) (lv' := [(0, .ref (ad k.1 0)), (1, .int y1), (2, .int r_4), (3, .int (x3 + 1)), (4, .int r_6)]) C dX10_draftFewest_62 rfl (by decide) (by decide) rfl ?_
        refine q_goto (tgt := 11) C dX10_draftFewest_65 (by decide) ?_
        refine q_sub [0, 1, 2, 3] rfl ?_
        exact ih _ _ _ h
      · refine q_iconst (v := 0) C dX10_draftFewest_51 (by decide) ?_
        exact q_zreturn C dX10_draftFewest_52 h
def fX10_draftFewest (n : Nat) (p0 : Int32) (T : TS) : Option (Int32 × TS) := bv (fX8_clear_17 n T) (fun T_1 => fX10_draftFewest_L11 n p0 (fun T_11 => rz (1 : Int32) T_11) n (0 : Int32) (0 : Int32) T_1)
set_option maxHeartbeats 4000000 in
set_option maxRecDepth 100000 in
theorem mtX10_draftFewest (l : Launch) (X : XT) (n : Nat) (p0 : Int32) (T T' : TS) (r : Int32) (h : fX10_draftFewest n p0 T = some (r, T')) : Met l yX10_draftFewest wsX10_draftFewest (RM 13) (PreX X [.ref (ad X 0), .int p0] T) (QQ X (some (.int r)) T') 0 0 (xA X) := by
  refine q_start (by decide) rfl (Nat.le_of_ble_eq_true rfl) ?_
  intro k hk C
  subst hk
  show GW k T 0 [(0, .ref (ad k.1 0)), (1, .int p0)] []
  unfold fX10_draftFewest at h
  refine q_aload_n C dX10_draftFewest_0 rfl 0 rfl ?_
  refine q_get (j := 5) C dX10_draftFewest_1 (wE_0 _ _) rfl (by decide) rfl inn_X10_draftFewest_10 (by decide +kernel) rfl ?_
  obtain ⟨T_1, hc, h⟩ := bv_some h
  refine q_callV (st' := []) C dX10_draftFewest_4 [] [] (mtX8_clear_17 l _ n _ _ hc) gX10_draftFewest_X8_clear rfl hd_X8_clear (by decide) (by decide) (wE_17 _ _) rfl rfl rfl (Nat.le_of_ble_eq_true rfl) rfl ?_
  clear hc
  refine q_iconst (v := 0) C dX10_draftFewest_7 (by decide) ?_
  refine q_istore_n (lv' := [(0, .ref (ad k.1 0)), (1, .int p0), (2, .int (0 : Int32))]) C dX10_draftFewest_8 rfl (by decide) rfl ?_
  refine q_iconst (v := 0) C dX10_draftFewest_9 (by decide) ?_
  refine q_istore_n (lv' := [(0, .ref (ad k.1 0)), (1, .int p0), (2, .int (0 : Int32)), (3, .int (0 : Int32))]) C dX10_draftFewest_10 rfl (by decide) rfl ?_
  refine q_sub [0, 1, 2, 3] rfl ?_
  refine lpX10_draftFewest_L11 C (fun T_11 h => ?_) _ _ _ _ h
  refine q_iconst (v := 1) C dX10_draftFewest_68 (by decide) ?_
  exact q_zreturn C dX10_draftFewest_69 h
def fX10_fewest (n : Nat) (T : TS) : Option (Int32 × TS) := bd (fX5_isOverfull n T) (fun r_2 T_1 => if ¬ r_2 = 0 then some ((-4 : Int32), T_1) else bd (fX5_count n T_1) (fun r_4 T_3 => bd (fX7_start n r_4 T_3) (fun r_6 T_5 => if ¬ r_6 = 0 then bd (fX10_isWantedWithoutRoom n T_5) (fun r_8 T_7 => if r_8 = 0 then bv (fX7_solve n T_7) (fun T_9 => bd (fX7_rollsLeft n T_9) (fun r_12 T_11 => bd (fX10_draftFewest n r_12 T_11) (fun r_14 T_13 => if ¬ r_14 = 0 then bv (fX8_copyFrom_11_17 n T_13) (fun T_15 => some (r_12, T_15)) else some ((-3 : Int32), T_13)))) else some ((-2 : Int32), T_7)) else some ((-4 : Int32), T_5))))
set_option maxHeartbeats 4000000 in
set_option maxRecDepth 100000 in
theorem mtX10_fewest (l : Launch) (X : XT) (n : Nat) (T T' : TS) (r : Int32) (h : fX10_fewest n T = some (r, T')) : Met l yX10_fewest wsX10_fewest (RM 14) (PreX X [.ref (ad X 0)] T) (QQ X (some (.int r)) T') 0 0 (xA X) := by
  refine q_start (by decide) rfl (Nat.le_of_ble_eq_true rfl) ?_
  intro k hk C
  subst hk
  show GW k T 0 [(0, .ref (ad k.1 0))] []
  unfold fX10_fewest at h
  refine q_aload_n C dX10_fewest_0 rfl 0 rfl ?_
  refine q_get (j := 1) C dX10_fewest_1 (wE_0 _ _) rfl (by decide) rfl inn_X10_fewest_10 (by decide +kernel) rfl ?_
  obtain ⟨r_2, T_1, hc, h⟩ := bd_some h
  refine q_callV (st' := [.int r_2]) C dX10_fewest_4 [] [] (mtX5_isOverfull l _ n _ _ _ hc) gX10_fewest_X5_isOverfull rfl hd_X5_isOverfull (by decide) (by decide) (wE_4 _ _) rfl rfl rfl (Nat.le_of_ble_eq_true rfl) rfl ?_
  clear hc
  refine q_if_ne (tgt := 31) C dX10_fewest_7 (by decide) h (fun c h => ?_) (fun c h => ?_)
  · refine q_bipush (v := -4) C dX10_fewest_31 (by decide) ?_
    exact q_ireturn C dX10_fewest_33 h
  · refine q_aload_n C dX10_fewest_10 rfl 0 rfl ?_
    refine q_get (j := 10) C dX10_fewest_11 (wE_0 _ _) rfl (by decide) rfl inn_X10_fewest_10 (by decide +kernel) rfl ?_
    refine q_aload_n C dX10_fewest_14 rfl 0 rfl ?_
    refine q_get (j := 2) C dX10_fewest_15 (wE_0 _ _) rfl (by decide) rfl inn_X10_fewest_10 (by decide +kernel) rfl ?_
    refine q_aload_n C dX10_fewest_18 rfl 0 rfl ?_
    refine q_get (j := 1) C dX10_fewest_19 (wE_0 _ _) rfl (by decide) rfl inn_X10_fewest_10 (by decide +kernel) rfl ?_
    obtain ⟨r_4, T_3, hc, h⟩ := bd_some h
    refine q_callV (st' := [.int r_4, .ref (ad k.1 6), .ref (ad k.1 30)]) C dX10_fewest_22 [] [.ref (ad k.1 6), .ref (ad k.1 30)] (mtX5_count l _ n _ _ _ hc) gX10_fewest_X5_count rfl hd_X5_count (by decide) (by decide) (wE_4 _ _) rfl rfl rfl (Nat.le_of_ble_eq_true rfl) rfl ?_
    clear hc
    obtain ⟨r_6, T_5, hc, h⟩ := bd_some h
    refine q_callV (st' := [.int r_6]) C dX10_fewest_25 [.ref (ad k.1 6), .int r_4] [] (mtX7_start l _ n _ _ _ _ hc) gX10_fewest_X7_start rfl hd_X7_start (by decide) (by decide) (wE_30 _ _) rfl rfl rfl (Nat.le_of_ble_eq_true rfl) rfl ?_
    clear hc
    refine q_if_ne (tgt := 34) C dX10_fewest_28 (by decide) h (fun c h => ?_) (fun c h => ?_)
    · refine q_aload_n C dX10_fewest_34 rfl 0 rfl ?_
      obtain ⟨r_8, T_7, hc, h⟩ := bd_some h
      refine q_callV (st' := [.int r_8]) C dX10_fewest_35 [] [] (mtX10_isWantedWithoutRoom l _ n _ _ _ hc) gX10_fewest_X10_isWantedWithoutRoom rfl hd_X10_isWantedWithoutRoom (by decide) (by decide) (wE_0 _ _) rfl rfl rfl (Nat.le_of_ble_eq_true rfl) rfl ?_
      clear hc
      refine q_if_eq (tgt := 44) C dX10_fewest_38 (by decide) h (fun c h => ?_) (fun c h => ?_)
      · refine q_aload_n C dX10_fewest_44 rfl 0 rfl ?_
        refine q_get (j := 10) C dX10_fewest_45 (wE_0 _ _) rfl (by decide) rfl inn_X10_fewest_10 (by decide +kernel) rfl ?_
        refine q_aload_n C dX10_fewest_48 rfl 0 rfl ?_
        refine q_get (j := 1) C dX10_fewest_49 (wE_0 _ _) rfl (by decide) rfl inn_X10_fewest_10 (by decide +kernel) rfl ?_
        obtain ⟨T_9, hc, h⟩ := bv_some h
        refine q_callV (st' := []) C dX10_fewest_52 [.ref (ad k.1 4)] [] (mtX7_solve l _ n _ _ hc) gX10_fewest_X7_solve rfl hd_X7_solve (by decide) (by decide) (wE_30 _ _) rfl rfl rfl (Nat.le_of_ble_eq_true rfl) rfl ?_
        clear hc
        refine q_aload_n C dX10_fewest_55 rfl 0 rfl ?_
        refine q_get (j := 10) C dX10_fewest_56 (wE_0 _ _) rfl (by decide) rfl inn_X10_fewest_10 (by decide +kernel) rfl ?_
        obtain ⟨r_12, T_11, hc, h⟩ := bd_some h
        refine q_callV (st' := [.int r_12]) C dX10_fewest_59 [] [] (mtX7_rollsLeft l _ n _ _ _ hc) gX10_fewest_X7_rollsLeft rfl hd_X7_rollsLeft (by decide) (by decide) (wE_30 _ _) rfl rfl rfl (Nat.le_of_ble_eq_true rfl) rfl ?_
        clear hc
        refine q_istore_n (lv' := [(0, .ref (ad k.1 0)), (1, .int r_12)]) C dX10_fewest_62 rfl (by decide) rfl ?_
        refine q_aload_n C dX10_fewest_63 rfl 0 rfl ?_
        refine q_iload_n C dX10_fewest_64 rfl 1 rfl ?_
        obtain ⟨r_14, T_13, hc, h⟩ := bd_some h
        refine q_callV (st' := [.int r_14]) C dX10_fewest_65 [.int r_12] [] (mtX10_draftFewest l _ n _ _ _ _ hc) gX10_fewest_X10_draftFewest rfl hd_X10_draftFewest (by decide) (by decide) (wE_0 _ _) rfl rfl rfl (Nat.le_of_ble_eq_true rfl) rfl ?_
        clear hc
        refine q_if_ne (tgt := 74) C dX10_fewest_68 (by decide) h (fun c h => ?_) (fun c h => ?_)
        · refine q_aload_n C dX10_fewest_74 rfl 0 rfl ?_
          refine q_get (j := 3) C dX10_fewest_75 (wE_0 _ _) rfl (by decide) rfl inn_X10_fewest_10 (by decide +kernel) rfl ?_
          refine q_aload_n C dX10_fewest_78 rfl 0 rfl ?_
          refine q_get (j := 5) C dX10_fewest_79 (wE_0 _ _) rfl (by decide) rfl inn_X10_fewest_10 (by decide +kernel) rfl ?_
          obtain ⟨T_15, hc, h⟩ := bv_some h
          refine q_callV (st' := []) C dX10_fewest_82 [.ref (ad k.1 17)] [] (mtX8_copyFrom_11_17 l _ n _ _ hc) gX10_fewest_X8_copyFrom rfl hd_X8_copyFrom (by decide) (by decide) (wE_11 _ _) rfl rfl rfl (Nat.le_of_ble_eq_true rfl) rfl ?_
          clear hc
          refine q_iload_n C dX10_fewest_85 rfl 1 rfl ?_
          exact q_ireturn C dX10_fewest_86 h
        · refine q_bipush (v := -3) C dX10_fewest_71 (by decide) ?_
          exact q_ireturn C dX10_fewest_73 h
      · refine q_bipush (v := -2) C dX10_fewest_41 (by decide) ?_
        exact q_ireturn C dX10_fewest_43 h
    · refine q_bipush (v := -4) C dX10_fewest_31 (by decide) ?_
      exact q_ireturn C dX10_fewest_33 h
def fX10_slot (n : Nat) (p0 : Int32) (p1 : Int32) (T : TS) : Option (Int32 × TS) := bd (fX5_isNumber n p0 T) (fun r_2 T_1 => if r_2 = 0 then some ((-1 : Int32), T_1) else bd (fX10_within n p1 (1 : Int32) (1000 : Int32) T_1) (fun r_4 T_3 => if r_4 = 0 then some ((-1 : Int32), T_3) else bd (fX8_isFull_11 n T_3) (fun r_6 T_5 => if r_6 = 0 then bd (fX5_codeAt n p0 T_5) (fun r_8 T_7 => bv (fX8_add_11 n r_8 p1 T_7) (fun T_9 => some (((gI T_9 550) - (1 : Int32)), T_9))) else some ((-1 : Int32), T_5))))
set_option maxHeartbeats 4000000 in
set_option maxRecDepth 100000 in
theorem mtX10_slot (l : Launch) (X : XT) (n : Nat) (p0 : Int32) (p1 : Int32) (T T' : TS) (r : Int32) (h : fX10_slot n p0 p1 T = some (r, T')) : Met l yX10_slot wsX10_slot (RM 13) (PreX X [.ref (ad X 0), .int p0, .int p1] T) (QQ X (some (.int r)) T') 0 0 (xA X) := by
  refine q_start (by decide) rfl (Nat.le_of_ble_eq_true rfl) ?_
  intro k hk C
  subst hk
  show GW k T 0 [(0, .ref (ad k.1 0)), (1, .int p0), (2, .int p1)] []
  unfold fX10_slot at h
  refine q_aload_n C dX10_slot_0 rfl 0 rfl ?_
  refine q_get (j := 1) C dX10_slot_1 (wE_0 _ _) rfl (by decide) rfl inn_X10_slot_10 (by decide +kernel) rfl ?_
  refine q_iload_n C dX10_slot_4 rfl 1 rfl ?_
  obtain ⟨r_2, T_1, hc, h⟩ := bd_some h
  refine q_callV (st' := [.int r_2]) C dX10_slot_5 [.int p0] [] (mtX5_isNumber l _ n _ _ _ _ hc) gX10_slot_X5_isNumber rfl hd_X5_isNumber (by decide) (by decide) (wE_4 _ _) rfl rfl rfl (Nat.le_of_ble_eq_true rfl) rfl ?_
  clear hc
  refine q_if_eq (tgt := 32) C dX10_slot_8 (by decide) h (fun c h => ?_) (fun c h => ?_)
  · refine q_iconst (v := -1) C dX10_slot_32 (by decide) ?_
    exact q_ireturn C dX10_slot_33 h
  · refine q_iload_n C dX10_slot_11 rfl 2 rfl ?_
    refine q_iconst (v := 1) C dX10_slot_12 (by decide) ?_
    refine q_sipush (v := 1000) C dX10_slot_13 (by decide) ?_
    obtain ⟨r_4, T_3, hc, h⟩ := bd_some h
    refine q_callS (st' := [.int r_4]) C dX10_slot_16 [.int p1, .int (1 : Int32), .int (1000 : Int32)] [] (mtX10_within l _ n _ _ _ _ _ _ hc) gX10_slot_X10_within rfl hd_X10_within (by decide) (by decide) rfl rfl (Nat.le_of_ble_eq_true rfl) rfl ?_
    clear hc
    refine q_if_eq (tgt := 32) C dX10_slot_19 (by decide) h (fun c h => ?_) (fun c h => ?_)
    · refine q_iconst (v := -1) C dX10_slot_32 (by decide) ?_
      exact q_ireturn C dX10_slot_33 h
    · refine q_aload_n C dX10_slot_22 rfl 0 rfl ?_
      refine q_get (j := 3) C dX10_slot_23 (wE_0 _ _) rfl (by decide) rfl inn_X10_slot_10 (by decide +kernel) rfl ?_
      obtain ⟨r_6, T_5, hc, h⟩ := bd_some h
      refine q_callV (st' := [.int r_6]) C dX10_slot_26 [] [] (mtX8_isFull_11 l _ n _ _ _ hc) gX10_slot_X8_isFull rfl hd_X8_isFull (by decide) (by decide) (wE_11 _ _) rfl rfl rfl (Nat.le_of_ble_eq_true rfl) rfl ?_
      clear hc
      refine q_if_eq (tgt := 34) C dX10_slot_29 (by decide) h (fun c h => ?_) (fun c h => ?_)
      · refine q_aload_n C dX10_slot_34 rfl 0 rfl ?_
        refine q_get (j := 3) C dX10_slot_35 (wE_0 _ _) rfl (by decide) rfl inn_X10_slot_10 (by decide +kernel) rfl ?_
        refine q_aload_n C dX10_slot_38 rfl 0 rfl ?_
        refine q_get (j := 1) C dX10_slot_39 (wE_0 _ _) rfl (by decide) rfl inn_X10_slot_10 (by decide +kernel) rfl ?_
        refine q_iload_n C dX10_slot_42 rfl 1 rfl ?_
        obtain ⟨r_8, T_7, hc, h⟩ := bd_some h
        refine q_callV (st' := [.int r_8, .ref (ad k.1 11)]) C dX10_slot_43 [.int p0] [.ref (ad k.1 11)] (mtX5_codeAt l _ n _ _ _ _ hc) gX10_slot_X5_codeAt rfl hd_X5_codeAt (by decide) (by decide) (wE_4 _ _) rfl rfl rfl (Nat.le_of_ble_eq_true rfl) rfl ?_
        clear hc
        refine q_iload_n C dX10_slot_46 rfl 2 rfl ?_
        obtain ⟨T_9, hc, h⟩ := bv_some h
        refine q_callV (st' := []) C dX10_slot_47 [.int r_8, .int p1] [] (mtX8_add_11 l _ n _ _ _ _ hc) gX10_slot_X8_add rfl hd_X8_add (by decide) (by decide) (wE_11 _ _) rfl rfl rfl (Nat.le_of_ble_eq_true rfl) rfl ?_
        clear hc
        refine q_aload_n C dX10_slot_50 rfl 0 rfl ?_
        refine q_get (j := 3) C dX10_slot_51 (wE_0 _ _) rfl (by decide) rfl inn_X10_slot_10 (by decide +kernel) rfl ?_
        refine q_get (j := 0) C dX10_slot_54 (wE_11 _ _) rfl (by decide) rfl inn_X10_slot_8 (by decide +kernel) rfl ?_
        refine q_iconst (v := 1) C dX10_slot_57 (by decide) ?_
        refine q_isub C dX10_slot_58 ?_
        exact q_ireturn C dX10_slot_59 h
      · refine q_iconst (v := -1) C dX10_slot_32 (by decide) ?_
        exact q_ireturn C dX10_slot_33 h
def fX10_drop (n : Nat) (p0 : Int32) (T : TS) : Option (Int32 × TS) := if ¬ p0 = (-1 : Int32) then bd (fX8_isSlot_11 n p0 T) (fun r_2 T_1 => if ¬ r_2 = 0 then bv (fX8_remove_11 n p0 T_1) (fun T_3 => rz (1 : Int32) T_3) else rz (0 : Int32) T_1) else bv (fX8_clear_11 n T) (fun T_5 => rz (1 : Int32) T_5)
set_option maxHeartbeats 4000000 in
set_option maxRecDepth 100000 in
theorem mtX10_drop (l : Launch) (X : XT) (n : Nat) (p0 : Int32) (T T' : TS) (r : Int32) (h : fX10_drop n p0 T = some (r, T')) : Met l yX10_drop wsX10_drop (RM 1) (PreX X [.ref (ad X 0), .int p0] T) (QQ X (some (.int r)) T') 0 0 (xA X) := by
  refine q_start (by decide) rfl (Nat.le_of_ble_eq_true rfl) ?_
  intro k hk C
  subst hk
  show GW k T 0 [(0, .ref (ad k.1 0)), (1, .int p0)] []
  unfold fX10_drop at h
  refine q_iload_n C dX10_drop_0 rfl 1 rfl ?_
  refine q_iconst (v := -1) C dX10_drop_1 (by decide) ?_
  refine q_icmp_ne (tgt := 14) C dX10_drop_2 (by decide) h (fun c h => ?_) (fun c h => ?_)
  · refine q_aload_n C dX10_drop_14 rfl 0 rfl ?_
    refine q_get (j := 3) C dX10_drop_15 (wE_0 _ _) rfl (by decide) rfl inn_X10_drop_10 (by decide +kernel) rfl ?_
    refine q_iload_n C dX10_drop_18 rfl 1 rfl ?_
    obtain ⟨r_2, T_1, hc, h⟩ := bd_some h
    refine q_callV (st' := [.int r_2]) C dX10_drop_19 [.int p0] [] (mtX8_isSlot_11 l _ n _ _ _ _ hc) gX10_drop_X8_isSlot rfl hd_X8_isSlot (by decide) (by decide) (wE_11 _ _) rfl rfl rfl (Nat.le_of_ble_eq_true rfl) rfl ?_
    clear hc
    refine q_if_ne (tgt := 27) C dX10_drop_22 (by decide) h (fun c h => ?_) (fun c h => ?_)
    · refine q_aload_n C dX10_drop_27 rfl 0 rfl ?_
      refine q_get (j := 3) C dX10_drop_28 (wE_0 _ _) rfl (by decide) rfl inn_X10_drop_10 (by decide +kernel) rfl ?_
      refine q_iload_n C dX10_drop_31 rfl 1 rfl ?_
      obtain ⟨T_3, hc, h⟩ := bv_some h
      refine q_callV (st' := []) C dX10_drop_32 [.int p0] [] (mtX8_remove_11 l _ n _ _ _ hc) gX10_drop_X8_remove rfl hd_X8_remove (by decide) (by decide) (wE_11 _ _) rfl rfl rfl (Nat.le_of_ble_eq_true rfl) rfl ?_
      clear hc
      refine q_iconst (v := 1) C dX10_drop_35 (by decide) ?_
      exact q_zreturn C dX10_drop_36 h
    · refine q_iconst (v := 0) C dX10_drop_25 (by decide) ?_
      exact q_zreturn C dX10_drop_26 h
  · refine q_aload_n C dX10_drop_5 rfl 0 rfl ?_
    refine q_get (j := 3) C dX10_drop_6 (wE_0 _ _) rfl (by decide) rfl inn_X10_drop_10 (by decide +kernel) rfl ?_
    obtain ⟨T_5, hc, h⟩ := bv_some h
    refine q_callV (st' := []) C dX10_drop_9 [] [] (mtX8_clear_11 l _ n _ _ hc) gX10_drop_X8_clear rfl hd_X8_clear (by decide) (by decide) (wE_11 _ _) rfl rfl rfl (Nat.le_of_ble_eq_true rfl) rfl ?_
    clear hc
    refine q_iconst (v := 1) C dX10_drop_12 (by decide) ?_
    exact q_zreturn C dX10_drop_13 h
def fX10_movesTo (n : Nat) (p0 : Int32) (T : TS) : Option (Int32 × TS) := ck p0 60 (bv (fX1_lay_24_1 n (gA T 12 (Int32.toNatClampNeg p0)) T) (fun T_1 => if ¬ p0 = 0 then ck (p0 - (1 : Int32)) 60 (bv (fX1_lay_22_1 n (gA T_1 12 (Int32.toNatClampNeg (p0 - (1 : Int32)))) T_1) (fun T_3 => bd (fX1_movesFrom_24_22 n T_3) (fun r_6 T_5 => some (r_6, T_5)))) else bd (fX1_movesFrom_24_20 n T_1) (fun r_8 T_7 => some (r_8, T_7))))
set_option maxHeartbeats 4000000 in
set_option maxRecDepth 100000 in
theorem mtX10_movesTo (l : Launch) (X : XT) (n : Nat) (p0 : Int32) (T T' : TS) (r : Int32) (h : fX10_movesTo n p0 T = some (r, T')) : Met l yX10_movesTo wsX10_movesTo (RM 2) (PreX X [.ref (ad X 0), .int p0] T) (QQ X (some (.int r)) T') 0 0 (xA X) := by
  refine q_start (by decide) rfl (Nat.le_of_ble_eq_true rfl) ?_
  intro k hk C
  subst hk
  show GW k T 0 [(0, .ref (ad k.1 0)), (1, .int p0)] []
  unfold fX10_movesTo at h
  refine q_aload_n C dX10_movesTo_0 rfl 0 rfl ?_
  refine q_get (j := 8) C dX10_movesTo_1 (wE_0 _ _) rfl (by decide) rfl inn_X10_movesTo_10 (by decide +kernel) rfl ?_
  refine q_aload_n C dX10_movesTo_4 rfl 0 rfl ?_
  refine q_get (j := 0) C dX10_movesTo_5 (wE_0 _ _) rfl (by decide) rfl inn_X10_movesTo_10 (by decide +kernel) rfl ?_
  refine q_aload_n C dX10_movesTo_8 rfl 0 rfl ?_
  refine q_get (j := 3) C dX10_movesTo_9 (wE_0 _ _) rfl (by decide) rfl inn_X10_movesTo_10 (by decide +kernel) rfl ?_
  refine q_get (j := 1) C dX10_movesTo_12 (wE_11 _ _) rfl (by decide) rfl inn_X10_movesTo_8 (by decide +kernel) rfl ?_
  refine q_iload_n C dX10_movesTo_15 rfl 1 rfl ?_
  refine q_iald C dX10_movesTo_16 (wE_12 _ _) h (fun h => ?_)
  obtain ⟨T_1, hc, h⟩ := bv_some h
  refine q_callV (st' := []) C dX10_movesTo_17 [.ref (ad k.1 1), .int (gA T 12 (Int32.toNatClampNeg p0))] [] (mtX1_lay_24_1 l _ n _ _ _ hc) gX10_movesTo_X1_lay rfl hd_X1_lay (by decide) (by decide) (wE_24 _ _) rfl rfl rfl (Nat.le_of_ble_eq_true rfl) rfl ?_
  clear hc
  refine q_iload_n C dX10_movesTo_20 rfl 1 rfl ?_
  refine q_if_ne (tgt := 36) C dX10_movesTo_21 (by decide) h (fun c h => ?_) (fun c h => ?_)
  · refine q_aload_n C dX10_movesTo_36 rfl 0 rfl ?_
    refine q_get (j := 7) C dX10_movesTo_37 (wE_0 _ _) rfl (by decide) rfl inn_X10_movesTo_10 (by decide +kernel) rfl ?_
    refine q_aload_n C dX10_movesTo_40 rfl 0 rfl ?_
    refine q_get (j := 0) C dX10_movesTo_41 (wE_0 _ _) rfl (by decide) rfl inn_X10_movesTo_10 (by decide +kernel) rfl ?_
    refine q_aload_n C dX10_movesTo_44 rfl 0 rfl ?_
    refine q_get (j := 3) C dX10_movesTo_45 (wE_0 _ _) rfl (by decide) rfl inn_X10_movesTo_10 (by decide +kernel) rfl ?_
    refine q_get (j := 1) C dX10_movesTo_48 (wE_11 _ _) rfl (by decide) rfl inn_X10_movesTo_8 (by decide +kernel) rfl ?_
    refine q_iload_n C dX10_movesTo_51 rfl 1 rfl ?_
    refine q_iconst (v := 1) C dX10_movesTo_52 (by decide) ?_
    refine q_isub C dX10_movesTo_53 ?_
    refine q_iald C dX10_movesTo_54 (wE_12 _ _) h (fun h => ?_)
    obtain ⟨T_3, hc, h⟩ := bv_some h
    refine q_callV (st' := []) C dX10_movesTo_55 [.ref (ad k.1 1), .int (gA T_1 12 (Int32.toNatClampNeg (p0 - (1 : Int32))))] [] (mtX1_lay_22_1 l _ n _ _ _ hc) gX10_movesTo_X1_lay rfl hd_X1_lay (by decide) (by decide) (wE_22 _ _) rfl rfl rfl (Nat.le_of_ble_eq_true rfl) rfl ?_
    clear hc
    refine q_aload_n C dX10_movesTo_58 rfl 0 rfl ?_
    refine q_get (j := 8) C dX10_movesTo_59 (wE_0 _ _) rfl (by decide) rfl inn_X10_movesTo_10 (by decide +kernel) rfl ?_
    refine q_aload_n C dX10_movesTo_62 rfl 0 rfl ?_
    refine q_get (j := 7) C dX10_movesTo_63 (wE_0 _ _) rfl (by decide) rfl inn_X10_movesTo_10 (by decide +kernel) rfl ?_
    obtain ⟨r_6, T_5, hc, h⟩ := bd_some h
    refine q_callV (st' := [.int r_6]) C dX10_movesTo_66 [.ref (ad k.1 22)] [] (mtX1_movesFrom_24_22 l _ n _ _ _ hc) gX10_movesTo_X1_movesFrom rfl hd_X1_movesFrom (by decide) (by decide) (wE_24 _ _) rfl rfl rfl (Nat.le_of_ble_eq_true rfl) rfl ?_
    clear hc
    exact q_ireturn C dX10_movesTo_69 h
  · refine q_aload_n C dX10_movesTo_24 rfl 0 rfl ?_
    refine q_get (j := 8) C dX10_movesTo_25 (wE_0 _ _) rfl (by decide) rfl inn_X10_movesTo_10 (by decide +kernel) rfl ?_
    refine q_aload_n C dX10_movesTo_28 rfl 0 rfl ?_
    refine q_get (j := 6) C dX10_movesTo_29 (wE_0 _ _) rfl (by decide) rfl inn_X10_movesTo_10 (by decide +kernel) rfl ?_
    obtain ⟨r_8, T_7, hc, h⟩ := bd_some h
    refine q_callV (st' := [.int r_8]) C dX10_movesTo_32 [.ref (ad k.1 20)] [] (mtX1_movesFrom_24_20 l _ n _ _ _ hc) gX10_movesTo_X1_movesFrom rfl hd_X1_movesFrom (by decide) (by decide) (wE_24 _ _) rfl rfl rfl (Nat.le_of_ble_eq_true rfl) rfl ?_
    clear hc
    exact q_ireturn C dX10_movesTo_35 h
def fX10_slotted (n : Nat) (p0 : Int32) (p1 : Int32) (T : TS) : Option (Int32 × TS) := bd (fX8_isSlot_11 n p0 T) (fun r_2 T_1 => if ¬ r_2 = 0 then ck p0 60 (nm (gA T_1 12 (Int32.toNatClampNeg p0)) (fun x3_3 => if p1 = 0 then ck p0 60 (some ((gA T_1 13 (Int32.toNatClampNeg p0)), T_1)) else if p1 = 1 then bd (fX4_wasteOf n x3_3 T_1) (fun r_5 T_4 => some (r_5, T_4)) else if p1 = 2 then bd (fX10_movesTo n p0 T_1) (fun r_7 T_6 => some (r_7, T_6)) else if p1 = 3 then bd (fX0_pieces n x3_3 T_1) (fun r_9 T_8 => some (r_9, T_8)) else bd (fX10_within n p1 (10 : Int32) (((10 : Int32) + (gI T_1 55)) - (1 : Int32)) T_1) (fun r_11 T_10 => if r_11 = 0 then some ((-1 : Int32), T_10) else bd (fX0_ofWidth n x3_3 (p1 - (10 : Int32)) T_10) (fun r_13 T_12 => some (r_13, T_12))))) else some ((-1 : Int32), T_1))
set_option maxHeartbeats 4000000 in
set_option maxRecDepth 100000 in
theorem mtX10_slotted (l : Launch) (X : XT) (n : Nat) (p0 : Int32) (p1 : Int32) (T T' : TS) (r : Int32) (h : fX10_slotted n p0 p1 T = some (r, T')) : Met l yX10_slotted wsX10_slotted (RM 3) (PreX X [.ref (ad X 0), .int p0, .int p1] T) (QQ X (some (.int r)) T') 0 0 (xA X) := by
  refine q_start (by decide) rfl (Nat.le_of_ble_eq_true rfl) ?_
  intro k hk C
  subst hk
  show GW k T 0 [(0, .ref (ad k.1 0)), (1, .int p0), (2, .int p1)] []
  unfold fX10_slotted at h
  refine q_aload_n C dX10_slotted_0 rfl 0 rfl ?_
  refine q_get (j := 3) C dX10_slotted_1 (wE_0 _ _) rfl (by decide) rfl inn_X10_slotted_10 (by decide +kernel) rfl ?_
  refine q_iload_n C dX10_slotted_4 rfl 1 rfl ?_
  obtain ⟨r_2, T_1, hc, h⟩ := bd_some h
  refine q_callV (st' := [.int r_2]) C dX10_slotted_5 [.int p0] [] (mtX8_isSlot_11 l _ n _ _ _ _ hc) gX10_slotted_X8_isSlot rfl hd_X8_isSlot (by decide) (by decide) (wE_11 _ _) rfl rfl rfl (Nat.le_of_ble_eq_true rfl) rfl ?_
  clear hc
  refine q_if_ne (tgt := 13) C dX10_slotted_8 (by decide) h (fun c h => ?_) (fun c h => ?_)
  · refine q_aload_n C dX10_slotted_13 rfl 0 rfl ?_
    refine q_get (j := 3) C dX10_slotted_14 (wE_0 _ _) rfl (by decide) rfl inn_X10_slotted_10 (by decide +kernel) rfl ?_
    refine q_get (j := 1) C dX10_slotted_17 (wE_11 _ _) rfl (by decide) rfl inn_X10_slotted_8 (by decide +kernel) rfl ?_
    refine q_iload_n C dX10_slotted_20 rfl 1 rfl ?_
    refine q_iald C dX10_slotted_21 (wE_12 _ _) h (fun h => ?_)
    refine q_nm h (fun x3_3 h => ?_)
    refine q_istore_n (lv' := [(0, .ref (ad k.1 0)), (1, .int p0), (2, .int p1), (3, .int x3_3)]) C dX10_slotted_22 rfl (by decide) rfl ?_
    refine q_iload_n C dX10_slotted_23 rfl 2 rfl ?_
    refine q_case (v := 0) h (fun e h => ?_) (fun c0 h => ?_)
    · refine q_tswIn (tgt := 56) C dX10_slotted_24 e (by decide) (by decide) (by rfl) (by decide) ?_
      refine q_aload_n C dX10_slotted_56 rfl 0 rfl ?_
      refine q_get (j := 3) C dX10_slotted_57 (wE_0 _ _) rfl (by decide) rfl inn_X10_slotted_10 (by decide +kernel) rfl ?_
      refine q_get (j := 2) C dX10_slotted_60 (wE_11 _ _) rfl (by decide) rfl inn_X10_slotted_8 (by decide +kernel) rfl ?_
      refine q_iload_n C dX10_slotted_63 rfl 1 rfl ?_
      refine q_iald C dX10_slotted_64 (wE_13 _ _) h (fun h => ?_)
      exact q_ireturn C dX10_slotted_65 h
    refine q_case (v := 1) h (fun e h => ?_) (fun c1 h => ?_)
    · refine q_tswIn (tgt := 66) C dX10_slotted_24 e (by decide) (by decide) (by rfl) (by decide) ?_
      refine q_aload_n C dX10_slotted_66 rfl 0 rfl ?_
      refine q_get (j := 0) C dX10_slotted_67 (wE_0 _ _) rfl (by decide) rfl inn_X10_slotted_10 (by decide +kernel) rfl ?_
      refine q_iload_n C dX10_slotted_70 rfl 3 rfl ?_
      obtain ⟨r_5, T_4, hc, h⟩ := bd_some h
      refine q_callV (st' := [.int r_5]) C dX10_slotted_71 [.int x3_3] [] (mtX4_wasteOf l _ n _ _ _ _ hc) gX10_slotted_X4_wasteOf rfl hd_X4_wasteOf (by decide) (by decide) (wE_1 _ _) rfl rfl rfl (Nat.le_of_ble_eq_true rfl) rfl ?_
      clear hc
      exact q_ireturn C dX10_slotted_74 h
    refine q_case (v := 2) h (fun e h => ?_) (fun c2 h => ?_)
    · refine q_tswIn (tgt := 75) C dX10_slotted_24 e (by decide) (by decide) (by rfl) (by decide) ?_
      refine q_aload_n C dX10_slotted_75 rfl 0 rfl ?_
      refine q_iload_n C dX10_slotted_76 rfl 1 rfl ?_
      obtain ⟨r_7, T_6, hc, h⟩ := bd_some h
      refine q_callV (st' := [.int r_7]) C dX10_slotted_77 [.int p0] [] (mtX10_movesTo l _ n _ _ _ _ hc) gX10_slotted_X10_movesTo rfl hd_X10_movesTo (by decide) (by decide) (wE_0 _ _) rfl rfl rfl (Nat.le_of_ble_eq_true rfl) rfl ?_
      clear hc
      exact q_ireturn C dX10_slotted_80 h
    refine q_case (v := 3) h (fun e h => ?_) (fun c3 h => ?_)
    · refine q_tswIn (tgt := 81) C dX10_slotted_24 e (by decide) (by decide) (by rfl) (by decide) ?_
      refine q_iload_n C dX10_slotted_81 rfl 3 rfl ?_
      obtain ⟨r_9, T_8, hc, h⟩ := bd_some h
      refine q_callS (st' := [.int r_9]) C dX10_slotted_82 [.int x3_3] [] (mtX0_pieces l _ n _ _ _ _ hc) gX10_slotted_X0_pieces rfl hd_X0_pieces (by decide) (by decide) rfl rfl (Nat.le_of_ble_eq_true rfl) rfl ?_
      clear hc
      exact q_ireturn C dX10_slotted_85 h
    refine q_tswOut (tgt := 86) C dX10_slotted_24 (by have w0 := c0; simp only [show ((0 : Int32)).toInt = 0 from rfl] at c0; simp only [show ((1 : Int32)).toInt = 1 from rfl] at c1; simp only [show ((2 : Int32)).toInt = 2 from rfl] at c2; simp only [show ((3 : Int32)).toInt = 3 from rfl] at c3; omega) (by decide) ?_
    refine q_iload_n C dX10_slotted_86 rfl 2 rfl ?_
    refine q_bipush (v := 10) C dX10_slotted_87 (by decide) ?_
    refine q_bipush (v := 10) C dX10_slotted_89 (by decide) ?_
    refine q_aload_n C dX10_slotted_91 rfl 0 rfl ?_
    refine q_get (j := 0) C dX10_slotted_92 (wE_0 _ _) rfl (by decide) rfl inn_X10_slotted_10 (by decide +kernel) rfl ?_
    refine q_get (j := 5) C dX10_slotted_95 (wE_1 _ _) rfl (by decide) rfl inn_X10_slotted_4 (by decide +kernel) rfl ?_
    refine q_iadd C dX10_slotted_98 ?_
    refine q_iconst (v := 1) C dX10_slotted_99 (by decide) ?_
    refine q_isub C dX10_slotted_100 ?_
    obtain ⟨r_11, T_10, hc, h⟩ := bd_some h
    refine q_callS (st' := [.int r_11]) C dX10_slotted_101 [.int p1, .int (10 : Int32), .int (((10 : Int32) + (gI T_1 55)) - (1 : Int32))] [] (mtX10_within l _ n _ _ _ _ _ _ hc) gX10_slotted_X10_within rfl hd_X10_within (by decide) (by decide) rfl rfl (Nat.le_of_ble_eq_true rfl) rfl ?_
    clear hc
    refine q_if_eq (tgt := 118) C dX10_slotted_104 (by decide) h (fun c h => ?_) (fun c h => ?_)
    · refine q_iconst (v := -1) C dX10_slotted_118 (by decide) ?_
      exact q_ireturn C dX10_slotted_119 h
    · refine q_iload_n C dX10_slotted_107 rfl 3 rfl ?_
      refine q_iload_n C dX10_slotted_108 rfl 2 rfl ?_
      refine q_bipush (v := 10) C dX10_slotted_109 (by decide) ?_
      refine q_isub C dX10_slotted_111 ?_
      obtain ⟨r_13, T_12, hc, h⟩ := bd_some h
      refine q_callS (st' := [.int r_13]) C dX10_slotted_112 [.int x3_3, .int (p1 - (10 : Int32))] [] (mtX0_ofWidth l _ n _ _ _ _ _ hc) gX10_slotted_X0_ofWidth rfl hd_X0_ofWidth (by decide) (by decide) rfl rfl (Nat.le_of_ble_eq_true rfl) rfl ?_
      clear hc
      refine q_goto (tgt := 119) C dX10_slotted_115 (by decide) ?_
      exact q_ireturn C dX10_slotted_119 h
  · refine q_iconst (v := -1) C dX10_slotted_11 (by decide) ?_
    exact q_ireturn C dX10_slotted_12 h
def fX10_wasteOfAll_L4 (n : Nat) (kk : Int32 → TS → Option (Int32 × TS)) : Nat → Int32 → Int32 → TS → Option (Int32 × TS)
  | 0, _, _, _ => none
  | fuel + 1, x1, x2, T => if (gI T 550) ≤ x2 then kk x1 T else ck x2 60 (ck x2 60 (bd (fX4_wasteOf n (gA T 12 (Int32.toNatClampNeg x2)) T) (fun r_2 T_1 => nm (x1 + ((gA T 13 (Int32.toNatClampNeg x2)) * r_2)) (fun x1_3 => fX10_wasteOfAll_L4 n kk fuel x1_3 (x2 + 1) T_1))))
set_option maxHeartbeats 4000000 in
set_option maxRecDepth 100000 in
theorem lpX10_wasteOfAll_L4 {l : Launch} {k : KT} {n : Nat} {kk : Int32 → TS → Option (Int32 × TS)} {r : Int32} {T' : TS} (C : CX l k 3 cX10_wasteOfAll RX10 wsX10_wasteOfAll 3 (some .int) (some (.int r), T')) (hk : ∀ e1 T1, kk e1 T1 = some (r, T') → GW k T1 50 [(1, .int e1)] []) : ∀ (fuel : Nat) (x1 : Int32) (x2 : Int32) (T : TS), fX10_wasteOfAll_L4 n kk fuel x1 x2 T = some (r, T') → GW k T 4 [(0, .ref (ad k.1 0)), (1, .int x1), (2, .int x2)] [] := by
  intro fuel
  induction fuel with
  | zero => intro x1 x2 T h; cases h
  | succ fuel ih =>
    intro x1 x2 T h
    rw [fX10_wasteOfAll_L4] at h
    refine q_iload_n C dX10_wasteOfAll_4 rfl 2 rfl ?_
    refine q_aload_n C dX10_wasteOfAll_5 rfl 0 rfl ?_
    refine q_get (j := 3) C dX10_wasteOfAll_6 (wE_0 _ _) rfl (by decide) rfl inn_X10_wasteOfAll_10 (by decide +kernel) rfl ?_
    refine q_get (j := 0) C dX10_wasteOfAll_9 (wE_11 _ _) rfl (by decide) rfl inn_X10_wasteOfAll_8 (by decide +kernel) rfl ?_
    refine q_icmp_ge (tgt := 50) C dX10_wasteOfAll_12 (by decide) h (fun c h => ?_) (fun c h => ?_)
    · refine q_sub [1] rfl ?_
      exact hk _ _ h
    · refine q_iload_n C dX10_wasteOfAll_15 rfl 1 rfl ?_
      refine q_aload_n C dX10_wasteOfAll_16 rfl 0 rfl ?_
      refine q_get (j := 3) C dX10_wasteOfAll_17 (wE_0 _ _) rfl (by decide) rfl inn_X10_wasteOfAll_10 (by decide +kernel) rfl ?_
      refine q_get (j := 2) C dX10_wasteOfAll_20 (wE_11 _ _) rfl (by decide) rfl inn_X10_wasteOfAll_8 (by decide +kernel) rfl ?_
      refine q_iload_n C dX10_wasteOfAll_23 rfl 2 rfl ?_
      refine q_iald C dX10_wasteOfAll_24 (wE_13 _ _) h (fun h => ?_)
      refine q_aload_n C dX10_wasteOfAll_25 rfl 0 rfl ?_
      refine q_get (j := 0) C dX10_wasteOfAll_26 (wE_0 _ _) rfl (by decide) rfl inn_X10_wasteOfAll_10 (by decide +kernel) rfl ?_
      refine q_aload_n C dX10_wasteOfAll_29 rfl 0 rfl ?_
      refine q_get (j := 3) C dX10_wasteOfAll_30 (wE_0 _ _) rfl (by decide) rfl inn_X10_wasteOfAll_10 (by decide +kernel) rfl ?_
      refine q_get (j := 1) C dX10_wasteOfAll_33 (wE_11 _ _) rfl (by decide) rfl inn_X10_wasteOfAll_8 (by decide +kernel) rfl ?_
      refine q_iload_n C dX10_wasteOfAll_36 rfl 2 rfl ?_
      refine q_iald C dX10_wasteOfAll_37 (wE_12 _ _) h (fun h => ?_)
      obtain ⟨r_2, T_1, hc, h⟩ := bd_some h
      refine q_callV (st' := [.int r_2, .int (gA T 13 (Int32.toNatClampNeg x2)), .int x1]) C dX10_wasteOfAll_38 [.int (gA T 12 (Int32.toNatClampNeg x2))] [.int (gA T 13 (Int32.toNatClampNeg x2)), .int x1] (mtX4_wasteOf l _ n _ _ _ _ hc) gX10_wasteOfAll_X4_wasteOf rfl hd_X4_wasteOf (by decide) (by decide) (wE_1 _ _) rfl rfl rfl (Nat.le_of_ble_eq_true rfl) rfl ?_
      clear hc
      refine q_imul C dX10_wasteOfAll_41 ?_
      refine q_iadd C dX10_wasteOfAll_42 ?_
      refine q_nm h (fun x1_3 h => ?_)
      refine q_istore_n (lv' := [(0, .ref (ad k.1 0)), (1, .int x1_3), (2, .int x2)]) C dX10_wasteOfAll_43 rfl (by decide) rfl ?_
      refine q_iinc (j := 2) (v := 1) (lv' := [(0, .ref (ad k.1 0)), (1, .int x1_3), (2, .int (x2 + 1))]) C dX10_wasteOfAll_44 rfl (by decide) (by decide) rfl ?_
      refine q_goto (tgt := 4) C dX10_wasteOfAll_47 (by decide) ?_
      refine q_sub [0, 1, 2] rfl ?_
      exact ih _ _ _ h
def fX10_wasteOfAll (n : Nat) (T : TS) : Option (Int32 × TS) := fX10_wasteOfAll_L4 n (fun e1_4 T_5 => some (e1_4, T_5)) n (0 : Int32) (0 : Int32) T
set_option maxHeartbeats 4000000 in
set_option maxRecDepth 100000 in
theorem mtX10_wasteOfAll (l : Launch) (X : XT) (n : Nat) (T T' : TS) (r : Int32) (h : fX10_wasteOfAll n T = some (r, T')) : Met l yX10_wasteOfAll wsX10_wasteOfAll (RM 3) (PreX X [.ref (ad X 0)] T) (QQ X (some (.int r)) T') 0 0 (xA X) := by
  refine q_start (by decide) rfl (Nat.le_of_ble_eq_true rfl) ?_
  intro k hk C
  subst hk
  show GW k T 0 [(0, .ref (ad k.1 0))] []
  unfold fX10_wasteOfAll at h
  refine q_iconst (v := 0) C dX10_wasteOfAll_0 (by decide) ?_
  refine q_istore_n (lv' := [(0, .ref (ad k.1 0)), (1, .int (0 : Int32))]) C dX10_wasteOfAll_1 rfl (by decide) rfl ?_
  refine q_iconst (v := 0) C dX10_wasteOfAll_2 (by decide) ?_
  refine q_istore_n (lv' := [(0, .ref (ad k.1 0)), (1, .int (0 : Int32)), (2, .int (0 : Int32))]) C dX10_wasteOfAll_3 rfl (by decide) rfl ?_
  refine q_sub [0, 1, 2] rfl ?_
  refine lpX10_wasteOfAll_L4 C (fun e1_4 T_5 h => ?_) _ _ _ _ h
  refine q_iload_n C dX10_wasteOfAll_50 rfl 0 rfl ?_
  exact q_ireturn C dX10_wasteOfAll_51 h
def fX10_movesOfAll_L4 (n : Nat) (kk : Int32 → TS → Option (Int32 × TS)) : Nat → Int32 → Int32 → TS → Option (Int32 × TS)
  | 0, _, _, _ => none
  | fuel + 1, x1, x2, T => if (gI T 550) ≤ x2 then kk x1 T else bd (fX10_movesTo n x2 T) (fun r_2 T_1 => nm (x1 + r_2) (fun x1_3 => fX10_movesOfAll_L4 n kk fuel x1_3 (x2 + 1) T_1))
set_option maxHeartbeats 4000000 in
set_option maxRecDepth 100000 in
theorem lpX10_movesOfAll_L4 {l : Launch} {k : KT} {n : Nat} {kk : Int32 → TS → Option (Int32 × TS)} {r : Int32} {T' : TS} (C : CX l k 3 cX10_movesOfAll RX10 wsX10_movesOfAll 3 (some .int) (some (.int r), T')) (hk : ∀ e1 T1, kk e1 T1 = some (r, T') → GW k T1 29 [(1, .int e1)] []) : ∀ (fuel : Nat) (x1 : Int32) (x2 : Int32) (T : TS), fX10_movesOfAll_L4 n kk fuel x1 x2 T = some (r, T') → GW k T 4 [(0, .ref (ad k.1 0)), (1, .int x1), (2, .int x2)] [] := by
  intro fuel
  induction fuel with
  | zero => intro x1 x2 T h; cases h
  | succ fuel ih =>
    intro x1 x2 T h
    rw [fX10_movesOfAll_L4] at h
    refine q_iload_n C dX10_movesOfAll_4 rfl 2 rfl ?_
    refine q_aload_n C dX10_movesOfAll_5 rfl 0 rfl ?_
    refine q_get (j := 3) C dX10_movesOfAll_6 (wE_0 _ _) rfl (by decide) rfl inn_X10_movesOfAll_10 (by decide +kernel) rfl ?_
    refine q_get (j := 0) C dX10_movesOfAll_9 (wE_11 _ _) rfl (by decide) rfl inn_X10_movesOfAll_8 (by decide +kernel) rfl ?_
    refine q_icmp_ge (tgt := 29) C dX10_movesOfAll_12 (by decide) h (fun c h => ?_) (fun c h => ?_)
    · refine q_sub [1] rfl ?_
      exact hk _ _ h
    · refine q_iload_n C dX10_movesOfAll_15 rfl 1 rfl ?_
      refine q_aload_n C dX10_movesOfAll_16 rfl 0 rfl ?_
      refine q_iload_n C dX10_movesOfAll_17 rfl 2 rfl ?_
      obtain ⟨r_2, T_1, hc, h⟩ := bd_some h
      refine q_callV (st' := [.int r_2, .int x1]) C dX10_movesOfAll_18 [.int x2] [.int x1] (mtX10_movesTo l _ n _ _ _ _ hc) gX10_movesOfAll_X10_movesTo rfl hd_X10_movesTo (by decide) (by decide) (wE_0 _ _) rfl rfl rfl (Nat.le_of_ble_eq_true rfl) rfl ?_
      clear hc
      refine q_iadd C dX10_movesOfAll_21 ?_
      refine q_nm h (fun x1_3 h => ?_)
      refine q_istore_n (lv' := [(0, .ref (ad k.1 0)), (1, .int x1_3), (2, .int x2)]) C dX10_movesOfAll_22 rfl (by decide) rfl ?_
      refine q_iinc (j := 2) (v := 1) (lv' := [(0, .ref (ad k.1 0)), (1, .int x1_3), (2, .int (x2 + 1))]) C dX10_movesOfAll_23 rfl (by decide) (by decide) rfl ?_
      refine q_goto (tgt := 4) C dX10_movesOfAll_26 (by decide) ?_
      refine q_sub [0, 1, 2] rfl ?_
      exact ih _ _ _ h
def fX10_movesOfAll (n : Nat) (T : TS) : Option (Int32 × TS) := fX10_movesOfAll_L4 n (fun e1_4 T_5 => some (e1_4, T_5)) n (0 : Int32) (0 : Int32) T
set_option maxHeartbeats 4000000 in
set_option maxRecDepth 100000 in
theorem mtX10_movesOfAll (l : Launch) (X : XT) (n : Nat) (T T' : TS) (r : Int32) (h : fX10_movesOfAll n T = some (r, T')) : Met l yX10_movesOfAll wsX10_movesOfAll (RM 3) (PreX X [.ref (ad X 0)] T) (QQ X (some (.int r)) T') 0 0 (xA X) := by
  refine q_start (by decide) rfl (Nat.le_of_ble_eq_true rfl) ?_
  intro k hk C
  subst hk
  show GW k T 0 [(0, .ref (ad k.1 0))] []
  unfold fX10_movesOfAll at h
  refine q_iconst (v := 0) C dX10_movesOfAll_0 (by decide) ?_
  refine q_istore_n (lv' := [(0, .ref (ad k.1 0)), (1, .int (0 : Int32))]) C dX10_movesOfAll_1 rfl (by decide) rfl ?_
  refine q_iconst (v := 0) C dX10_movesOfAll_2 (by decide) ?_
  refine q_istore_n (lv' := [(0, .ref (ad k.1 0)), (1, .int (0 : Int32)), (2, .int (0 : Int32))]) C dX10_movesOfAll_3 rfl (by decide) rfl ?_
  refine q_sub [0, 1, 2] rfl ?_
  refine lpX10_movesOfAll_L4 C (fun e1_4 T_5 h => ?_) _ _ _ _ h
  refine q_iload_n C dX10_movesOfAll_29 rfl 0 rfl ?_
  exact q_ireturn C dX10_movesOfAll_30 h
def fX10_piecesMissing_L4 (n : Nat) (kk : Int32 → TS → Option (Int32 × TS)) : Nat → Int32 → Int32 → TS → Option (Int32 × TS)
  | 0, _, _, _ => none
  | fuel + 1, x1, x2, T => if (gI T 55) ≤ x2 then kk x1 T else bd (fX6_wanted n x2 T) (fun r_2 T_1 => bd (fX8_piecesOf_11 n x2 T_1) (fun r_4 T_3 => nm (x1 + (imax (0 : Int32) (r_2 - r_4))) (fun x1_5 => fX10_piecesMissing_L4 n kk fuel x1_5 (x2 + 1) T_3)))
set_option maxHeartbeats 4000000 in
set_option maxRecDepth 100000 in
theorem lpX10_piecesMissing_L4 {l : Launch} {k : KT} {n : Nat} {kk : Int32 → TS → Option (Int32 × TS)} {r : Int32} {T' : TS} (C : CX l k 3 cX10_piecesMissing RX10 wsX10_piecesMissing 2 (some .int) (some (.int r), T')) (hk : ∀ e1 T1, kk e1 T1 = some (r, T') → GW k T1 45 [(1, .int e1)] []) : ∀ (fuel : Nat) (x1 : Int32) (x2 : Int32) (T : TS), fX10_piecesMissing_L4 n kk fuel x1 x2 T = some (r, T') → GW k T 4 [(0, .ref (ad k.1 0)), (1, .int x1), (2, .int x2)] [] := by
  intro fuel
  induction fuel with
  | zero => intro x1 x2 T h; cases h
  | succ fuel ih =>
    intro x1 x2 T h
    rw [fX10_piecesMissing_L4] at h
    refine q_iload_n C dX10_piecesMissing_4 rfl 2 rfl ?_
    refine q_aload_n C dX10_piecesMissing_5 rfl 0 rfl ?_
    refine q_get (j := 0) C dX10_piecesMissing_6 (wE_0 _ _) rfl (by decide) rfl inn_X10_piecesMissing_10 (by decide +kernel) rfl ?_
    refine q_get (j := 5) C dX10_piecesMissing_9 (wE_1 _ _) rfl (by decide) rfl inn_X10_piecesMissing_4 (by decide +kernel) rfl ?_
    refine q_icmp_ge (tgt := 45) C dX10_piecesMissing_12 (by decide) h (fun c h => ?_) (fun c h => ?_)
    · refine q_sub [1] rfl ?_
      exact hk _ _ h
    · refine q_iload_n C dX10_piecesMissing_15 rfl 1 rfl ?_
      refine q_iconst (v := 0) C dX10_piecesMissing_16 (by decide) ?_
      refine q_aload_n C dX10_piecesMissing_17 rfl 0 rfl ?_
      refine q_get (j := 2) C dX10_piecesMissing_18 (wE_0 _ _) rfl (by decide) rfl inn_X10_piecesMissing_10 (by decide +kernel) rfl ?_
      refine q_iload_n C dX10_piecesMissing_21 rfl 2 rfl ?_
      obtain ⟨r_2, T_1, hc, h⟩ := bd_some h
      refine q_callV (st' := [.int r_2, .int (0 : Int32), .int x1]) C dX10_piecesMissing_22 [.int x2] [.int (0 : Int32), .int x1] (mtX6_wanted l _ n _ _ _ _ hc) gX10_piecesMissing_X6_wanted rfl hd_X6_wanted (by decide) (by decide) (wE_6 _ _) rfl rfl rfl (Nat.le_of_ble_eq_true rfl) rfl ?_
      clear hc
      refine q_aload_n C dX10_piecesMissing_25 rfl 0 rfl ?_
      refine q_get (j := 3) C dX10_piecesMissing_26 (wE_0 _ _) rfl (by decide) rfl inn_X10_piecesMissing_10 (by decide +kernel) rfl ?_
      refine q_iload_n C dX10_piecesMissing_29 rfl 2 rfl ?_
      obtain ⟨r_4, T_3, hc, h⟩ := bd_some h
      refine q_callV (st' := [.int r_4, .int r_2, .int (0 : Int32), .int x1]) C dX10_piecesMissing_30 [.int x2] [.int r_2, .int (0 : Int32), .int x1] (mtX8_piecesOf_11 l _ n _ _ _ _ hc) gX10_piecesMissing_X8_piecesOf rfl hd_X8_piecesOf (by decide) (by decide) (wE_11 _ _) rfl rfl rfl (Nat.le_of_ble_eq_true rfl) rfl ?_
      clear hc
      refine q_isub C dX10_piecesMissing_33 ?_
      refine q_mmax C dX10_piecesMissing_34 (by decide +kernel) (by decide +kernel) (by decide +kernel) (by decide +kernel) (by decide) (Nat.le_of_ble_eq_true rfl) ?_
      refine q_iadd C dX10_piecesMissing_37 ?_
      refine q_nm h (fun x1_5 h => ?_)
      refine q_istore_n (lv' := [(0, .ref (ad k.1 0)), (1, .int x1_5), (2, .int x2)]) C dX10_piecesMissing_38 rfl (by decide) rfl ?_
      refine q_iinc (j := 2) (v := 1) (lv' := [(0, .ref (ad k.1 0)), (1, .int x1_5), (2, .int (x2 + 1))]) C dX10_piecesMissing_39 rfl (by decide) (by decide) rfl ?_
      refine q_goto (tgt := 4) C dX10_piecesMissing_42 (by decide) ?_
      refine q_sub [0, 1, 2] rfl ?_
      exact ih _ _ _ h
def fX10_piecesMissing (n : Nat) (T : TS) : Option (Int32 × TS) := fX10_piecesMissing_L4 n (fun e1_6 T_7 => some (e1_6, T_7)) n (0 : Int32) (0 : Int32) T
set_option maxHeartbeats 4000000 in
set_option maxRecDepth 100000 in
theorem mtX10_piecesMissing (l : Launch) (X : XT) (n : Nat) (T T' : TS) (r : Int32) (h : fX10_piecesMissing n T = some (r, T')) : Met l yX10_piecesMissing wsX10_piecesMissing (RM 2) (PreX X [.ref (ad X 0)] T) (QQ X (some (.int r)) T') 0 0 (xA X) := by
  refine q_start (by decide) rfl (Nat.le_of_ble_eq_true rfl) ?_
  intro k hk C
  subst hk
  show GW k T 0 [(0, .ref (ad k.1 0))] []
  unfold fX10_piecesMissing at h
  refine q_iconst (v := 0) C dX10_piecesMissing_0 (by decide) ?_
  refine q_istore_n (lv' := [(0, .ref (ad k.1 0)), (1, .int (0 : Int32))]) C dX10_piecesMissing_1 rfl (by decide) rfl ?_
  refine q_iconst (v := 0) C dX10_piecesMissing_2 (by decide) ?_
  refine q_istore_n (lv' := [(0, .ref (ad k.1 0)), (1, .int (0 : Int32)), (2, .int (0 : Int32))]) C dX10_piecesMissing_3 rfl (by decide) rfl ?_
  refine q_sub [0, 1, 2] rfl ?_
  refine lpX10_piecesMissing_L4 C (fun e1_6 T_7 h => ?_) _ _ _ _ h
  refine q_iload_n C dX10_piecesMissing_45 rfl 0 rfl ?_
  exact q_ireturn C dX10_piecesMissing_46 h
def fX10_piecesBeyond_L4 (n : Nat) (kk : Int32 → TS → Option (Int32 × TS)) : Nat → Int32 → Int32 → TS → Option (Int32 × TS)
  | 0, _, _, _ => none
  | fuel + 1, x1, x2, T => if (gI T 55) ≤ x2 then kk x1 T else bd (fX8_piecesOf_11 n x2 T) (fun r_2 T_1 => bd (fX6_wanted n x2 T_1) (fun r_4 T_3 => nm (x1 + (imax (0 : Int32) (r_2 - r_4))) (fun x1_5 => fX10_piecesBeyond_L4 n kk fuel x1_5 (x2 + 1) T_3)))
set_option maxHeartbeats 4000000 in
set_option maxRecDepth 100000 in
theorem lpX10_piecesBeyond_L4 {l : Launch} {k : KT} {n : Nat} {kk : Int32 → TS → Option (Int32 × TS)} {r : Int32} {T' : TS} (C : CX l k 3 cX10_piecesBeyond RX10 wsX10_piecesBeyond 2 (some .int) (some (.int r), T')) (hk : ∀ e1 T1, kk e1 T1 = some (r, T') → GW k T1 45 [(1, .int e1)] []) : ∀ (fuel : Nat) (x1 : Int32) (x2 : Int32) (T : TS), fX10_piecesBeyond_L4 n kk fuel x1 x2 T = some (r, T') → GW k T 4 [(0, .ref (ad k.1 0)), (1, .int x1), (2, .int x2)] [] := by
  intro fuel
  induction fuel with
  | zero => intro x1 x2 T h; cases h
  | succ fuel ih =>
    intro x1 x2 T h
    rw [fX10_piecesBeyond_L4] at h
    refine q_iload_n C dX10_piecesBeyond_4 rfl 2 rfl ?_
    refine q_aload_n C dX10_piecesBeyond_5 rfl 0 rfl ?_
    refine q_get (j := 0) C dX10_piecesBeyond_6 (wE_0 _ _) rfl (by decide) rfl inn_X10_piecesBeyond_10 (by decide +kernel) rfl ?_
    refine q_get (j := 5) C dX10_piecesBeyond_9 (wE_1 _ _) rfl (by decide) rfl inn_X10_piecesBeyond_4 (by decide +kernel) rfl ?_
    refine q_icmp_ge (tgt := 45) C dX10_piecesBeyond_12 (by decide) h (fun c h => ?_) (fun c h => ?_)
    · refine q_sub [1] rfl ?_
      exact hk _ _ h
    · refine q_iload_n C dX10_piecesBeyond_15 rfl 1 rfl ?_
      refine q_iconst (v := 0) C dX10_piecesBeyond_16 (by decide) ?_
      refine q_aload_n C dX10_piecesBeyond_17 rfl 0 rfl ?_
      refine q_get (j := 3) C dX10_piecesBeyond_18 (wE_0 _ _) rfl (by decide) rfl inn_X10_piecesBeyond_10 (by decide +kernel) rfl ?_
      refine q_iload_n C dX10_piecesBeyond_21 rfl 2 rfl ?_
      obtain ⟨r_2, T_1, hc, h⟩ := bd_some h
      refine q_callV (st' := [.int r_2, .int (0 : Int32), .int x1]) C dX10_piecesBeyond_22 [.int x2] [.int (0 : Int32), .int x1] (mtX8_piecesOf_11 l _ n _ _ _ _ hc) gX10_piecesBeyond_X8_piecesOf rfl hd_X8_piecesOf (by decide) (by decide) (wE_11 _ _) rfl rfl rfl (Nat.le_of_ble_eq_true rfl) rfl ?_
      clear hc
      refine q_aload_n C dX10_piecesBeyond_25 rfl 0 rfl ?_
      refine q_get (j := 2) C dX10_piecesBeyond_26 (wE_0 _ _) rfl (by decide) rfl inn_X10_piecesBeyond_10 (by decide +kernel) rfl ?_
      refine q_iload_n C dX10_piecesBeyond_29 rfl 2 rfl ?_
      obtain ⟨r_4, T_3, hc, h⟩ := bd_some h
      refine q_callV (st' := [.int r_4, .int r_2, .int (0 : Int32), .int x1]) C dX10_piecesBeyond_30 [.int x2] [.int r_2, .int (0 : Int32), .int x1] (mtX6_wanted l _ n _ _ _ _ hc) gX10_piecesBeyond_X6_wanted rfl hd_X6_wanted (by decide) (by decide) (wE_6 _ _) rfl rfl rfl (Nat.le_of_ble_eq_true rfl) rfl ?_
      clear hc
      refine q_isub C dX10_piecesBeyond_33 ?_
      refine q_mmax C dX10_piecesBeyond_34 (by decide +kernel) (by decide +kernel) (by decide +kernel) (by decide +kernel) (by decide) (Nat.le_of_ble_eq_true rfl) ?_
      refine q_iadd C dX10_piecesBeyond_37 ?_
      refine q_nm h (fun x1_5 h => ?_)
      refine q_istore_n (lv' := [(0, .ref (ad k.1 0)), (1, .int x1_5), (2, .int x2)]) C dX10_piecesBeyond_38 rfl (by decide) rfl ?_
      refine q_iinc (j := 2) (v := 1) (lv' := [(0, .ref (ad k.1 0)), (1, .int x1_5), (2, .int (x2 + 1))]) C dX10_piecesBeyond_39 rfl (by decide) (by decide) rfl ?_
      refine q_goto (tgt := 4) C dX10_piecesBeyond_42 (by decide) ?_
      refine q_sub [0, 1, 2] rfl ?_
      exact ih _ _ _ h
def fX10_piecesBeyond (n : Nat) (T : TS) : Option (Int32 × TS) := fX10_piecesBeyond_L4 n (fun e1_6 T_7 => some (e1_6, T_7)) n (0 : Int32) (0 : Int32) T
set_option maxHeartbeats 4000000 in
set_option maxRecDepth 100000 in
theorem mtX10_piecesBeyond (l : Launch) (X : XT) (n : Nat) (T T' : TS) (r : Int32) (h : fX10_piecesBeyond n T = some (r, T')) : Met l yX10_piecesBeyond wsX10_piecesBeyond (RM 2) (PreX X [.ref (ad X 0)] T) (QQ X (some (.int r)) T') 0 0 (xA X) := by
  refine q_start (by decide) rfl (Nat.le_of_ble_eq_true rfl) ?_
  intro k hk C
  subst hk
  show GW k T 0 [(0, .ref (ad k.1 0))] []
  unfold fX10_piecesBeyond at h
  refine q_iconst (v := 0) C dX10_piecesBeyond_0 (by decide) ?_
  refine q_istore_n (lv' := [(0, .ref (ad k.1 0)), (1, .int (0 : Int32))]) C dX10_piecesBeyond_1 rfl (by decide) rfl ?_
  refine q_iconst (v := 0) C dX10_piecesBeyond_2 (by decide) ?_
  refine q_istore_n (lv' := [(0, .ref (ad k.1 0)), (1, .int (0 : Int32)), (2, .int (0 : Int32))]) C dX10_piecesBeyond_3 rfl (by decide) rfl ?_
  refine q_sub [0, 1, 2] rfl ?_
  refine lpX10_piecesBeyond_L4 C (fun e1_6 T_7 h => ?_) _ _ _ _ h
  refine q_iload_n C dX10_piecesBeyond_45 rfl 0 rfl ?_
  exact q_ireturn C dX10_piecesBeyond_46 h
def fX10_plan (n : Nat) (p0 : Int32) (T : TS) : Option (Int32 × TS) := if p0 = 0 then some ((gI T 550), T) else if p0 = 1 then bd (fX8_allRolls_11 n T) (fun r_2 T_1 => some (r_2, T_1)) else if p0 = 2 then bd (fX10_wasteOfAll n T) (fun r_4 T_3 => some (r_4, T_3)) else if p0 = 3 then bd (fX10_movesOfAll n T) (fun r_6 T_5 => some (r_6, T_5)) else if p0 = 4 then bd (fX10_piecesMissing n T) (fun r_8 T_7 => some (r_8, T_7)) else if p0 = 5 then bd (fX10_piecesBeyond n T) (fun r_10 T_9 => some (r_10, T_9)) else some ((-1 : Int32), T)
set_option maxHeartbeats 4000000 in
set_option maxRecDepth 100000 in
theorem mtX10_plan (l : Launch) (X : XT) (n : Nat) (p0 : Int32) (T T' : TS) (r : Int32) (h : fX10_plan n p0 T = some (r, T')) : Met l yX10_plan wsX10_plan (RM 4) (PreX X [.ref (ad X 0), .int p0] T) (QQ X (some (.int r)) T') 0 0 (xA X) := by
  refine q_start (by decide) rfl (Nat.le_of_ble_eq_true rfl) ?_
  intro k hk C
  subst hk
  show GW k T 0 [(0, .ref (ad k.1 0)), (1, .int p0)] []
  unfold fX10_plan at h
  refine q_iload_n C dX10_plan_0 rfl 1 rfl ?_
  refine q_case (v := 0) h (fun e h => ?_) (fun c0 h => ?_)
  · refine q_tswIn (tgt := 40) C dX10_plan_1 e (by decide) (by decide) (by rfl) (by decide) ?_
    refine q_aload_n C dX10_plan_40 rfl 0 rfl ?_
    refine q_get (j := 3) C dX10_plan_41 (wE_0 _ _) rfl (by decide) rfl inn_X10_plan_10 (by decide +kernel) rfl ?_
    refine q_get (j := 0) C dX10_plan_44 (wE_11 _ _) rfl (by decide) rfl inn_X10_plan_8 (by decide +kernel) rfl ?_
    exact q_ireturn C dX10_plan_47 h
  refine q_case (v := 1) h (fun e h => ?_) (fun c1 h => ?_)
  · refine q_tswIn (tgt := 48) C dX10_plan_1 e (by decide) (by decide) (by rfl) (by decide) ?_
    refine q_aload_n C dX10_plan_48 rfl 0 rfl ?_
    refine q_get (j := 3) C dX10_plan_49 (wE_0 _ _) rfl (by decide) rfl inn_X10_plan_10 (by decide +kernel) rfl ?_
    obtain ⟨r_2, T_1, hc, h⟩ := bd_some h
    refine q_callV (st' := [.int r_2]) C dX10_plan_52 [] [] (mtX8_allRolls_11 l _ n _ _ _ hc) gX10_plan_X8_allRolls rfl hd_X8_allRolls (by decide) (by decide) (wE_11 _ _) rfl rfl rfl (Nat.le_of_ble_eq_true rfl) rfl ?_
    clear hc
    exact q_ireturn C dX10_plan_55 h
  refine q_case (v := 2) h (fun e h => ?_) (fun c2 h => ?_)
  · refine q_tswIn (tgt := 56) C dX10_plan_1 e (by decide) (by decide) (by rfl) (by decide) ?_
    refine q_aload_n C dX10_plan_56 rfl 0 rfl ?_
    obtain ⟨r_4, T_3, hc, h⟩ := bd_some h
    refine q_callV (st' := [.int r_4]) C dX10_plan_57 [] [] (mtX10_wasteOfAll l _ n _ _ _ hc) gX10_plan_X10_wasteOfAll rfl hd_X10_wasteOfAll (by decide) (by decide) (wE_0 _ _) rfl rfl rfl (Nat.le_of_ble_eq_true rfl) rfl ?_
    clear hc
    exact q_ireturn C dX10_plan_60 h
  refine q_case (v := 3) h (fun e h => ?_) (fun c3 h => ?_)
  · refine q_tswIn (tgt := 61) C dX10_plan_1 e (by decide) (by decide) (by rfl) (by decide) ?_
    refine q_aload_n C dX10_plan_61 rfl 0 rfl ?_
    obtain ⟨r_6, T_5, hc, h⟩ := bd_some h
    refine q_callV (st' := [.int r_6]) C dX10_plan_62 [] [] (mtX10_movesOfAll l _ n _ _ _ hc) gX10_plan_X10_movesOfAll rfl hd_X10_movesOfAll (by decide) (by decide) (wE_0 _ _) rfl rfl rfl (Nat.le_of_ble_eq_true rfl) rfl ?_
    clear hc
    exact q_ireturn C dX10_plan_65 h
  refine q_case (v := 4) h (fun e h => ?_) (fun c4 h => ?_)
  · refine q_tswIn (tgt := 66) C dX10_plan_1 e (by decide) (by decide) (by rfl) (by decide) ?_
    refine q_aload_n C dX10_plan_66 rfl 0 rfl ?_
    obtain ⟨r_8, T_7, hc, h⟩ := bd_some h
    refine q_callV (st' := [.int r_8]) C dX10_plan_67 [] [] (mtX10_piecesMissing l _ n _ _ _ hc) gX10_plan_X10_piecesMissing rfl hd_X10_piecesMissing (by decide) (by decide) (wE_0 _ _) rfl rfl rfl (Nat.le_of_ble_eq_true rfl) rfl ?_
    clear hc
    exact q_ireturn C dX10_plan_70 h
  refine q_case (v := 5) h (fun e h => ?_) (fun c5 h => ?_)
  · refine q_tswIn (tgt := 71) C dX10_plan_1 e (by decide) (by decide) (by rfl) (by decide) ?_
    refine q_aload_n C dX10_plan_71 rfl 0 rfl ?_
    obtain ⟨r_10, T_9, hc, h⟩ := bd_some h
    refine q_callV (st' := [.int r_10]) C dX10_plan_72 [] [] (mtX10_piecesBeyond l _ n _ _ _ hc) gX10_plan_X10_piecesBeyond rfl hd_X10_piecesBeyond (by decide) (by decide) (wE_0 _ _) rfl rfl rfl (Nat.le_of_ble_eq_true rfl) rfl ?_
    clear hc
    exact q_ireturn C dX10_plan_75 h
  refine q_tswOut (tgt := 76) C dX10_plan_1 (by have w0 := c0; simp only [show ((0 : Int32)).toInt = 0 from rfl] at c0; simp only [show ((1 : Int32)).toInt = 1 from rfl] at c1; simp only [show ((2 : Int32)).toInt = 2 from rfl] at c2; simp only [show ((3 : Int32)).toInt = 3 from rfl] at c3; simp only [show ((4 : Int32)).toInt = 4 from rfl] at c4; simp only [show ((5 : Int32)).toInt = 5 from rfl] at c5; omega) (by decide) ?_
  refine q_iconst (v := -1) C dX10_plan_76 (by decide) ?_
  exact q_ireturn C dX10_plan_77 h
def fX10_line_L82 (n : Nat) (y1 : Int32) (kk : TS → Option (Int32 × TS)) : Nat → Int32 → TS → Option (Int32 × TS)
  | 0, _, _ => none
  | fuel + 1, x2, T => if (gI T 550) ≤ x2 then kk T else ck x2 60 (bv (fX1_lay_22_1 n (gA T 12 (Int32.toNatClampNeg x2)) T) (fun T_9 => bd (fX1_movesFrom_24_22 n T_9) (fun r_12 T_11 => bv (fX3_setStep n x2 y1 r_12 T_11) (fun T_13 => fX10_line_L82 n y1 kk fuel (x2 + 1) T_13))))
set_option maxHeartbeats 4000000 in
set_option maxRecDepth 100000 in
theorem lpX10_line_L82 {l : Launch} {k : KT} {n : Nat} {y1 : Int32} {kk : TS → Option (Int32 × TS)} {r : Int32} {T' : TS} (C : CX l k 4 cX10_line RX10 wsX10_line 4 (some .int) (some (.int r), T')) (hk : ∀ T1, kk T1 = some (r, T') → GW k T1 139 [(0, .ref (ad k.1 0)), (1, .int y1)] []) : ∀ (fuel : Nat) (x2 : Int32) (T : TS), fX10_line_L82 n y1 kk fuel x2 T = some (r, T') → GW k T 82 [(0, .ref (ad k.1 0)), (1, .int y1), (2, .int x2)] [] := by
  intro fuel
  induction fuel with
  | zero => intro x2 T h; cases h
  | succ fuel ih =>
    intro x2 T h
    rw [fX10_line_L82] at h
    refine q_iload_n C dX10_line_82 rfl 2 rfl ?_
    refine q_aload_n C dX10_line_83 rfl 0 rfl ?_
    refine q_get (j := 3) C dX10_line_84 (wE_0 _ _) rfl (by decide) rfl inn_X10_line_10 (by decide +kernel) rfl ?_
    refine q_get (j := 0) C dX10_line_87 (wE_11 _ _) rfl (by decide) rfl inn_X10_line_8 (by decide +kernel) rfl ?_
    refine q_icmp_ge (tgt := 139) C dX10_line_90 (by decide) h (fun c h => ?_) (fun c h => ?_)
    · refine q_sub [0, 1] rfl ?_
      exact hk _ h
    · refine q_aload_n C dX10_line_93 rfl 0 rfl ?_
      refine q_get (j := 7) C dX10_line_94 (wE_0 _ _) rfl (by decide) rfl inn_X10_line_10 (by decide +kernel) rfl ?_
      refine q_aload_n C dX10_line_97 rfl 0 rfl ?_
      refine q_get (j := 0) C dX10_line_98 (wE_0 _ _) rfl (by decide) rfl inn_X10_line_10 (by decide +kernel) rfl ?_
      refine q_aload_n C dX10_line_101 rfl 0 rfl ?_
      refine q_get (j := 3) C dX10_line_102 (wE_0 _ _) rfl (by decide) rfl inn_X10_line_10 (by decide +kernel) rfl ?_
      refine q_get (j := 1) C dX10_line_105 (wE_11 _ _) rfl (by decide) rfl inn_X10_line_8 (by decide +kernel) rfl ?_
      refine q_iload_n C dX10_line_108 rfl 2 rfl ?_
      refine q_iald C dX10_line_109 (wE_12 _ _) h (fun h => ?_)
      obtain ⟨T_9, hc, h⟩ := bv_some h
      refine q_callV (st' := []) C dX10_line_110 [.ref (ad k.1 1), .int (gA T 12 (Int32.toNatClampNeg x2))] [] (mtX1_lay_22_1 l _ n _ _ _ hc) gX10_line_X1_lay rfl hd_X1_lay (by decide) (by decide) (wE_22 _ _) rfl rfl rfl (Nat.le_of_ble_eq_true rfl) rfl ?_
      clear hc
      refine q_aload_n C dX10_line_113 rfl 0 rfl ?_
      refine q_get (j := 9) C dX10_line_114 (wE_0 _ _) rfl (by decide) rfl inn_X10_line_10 (by decide +kernel) rfl ?_
      refine q_iload_n C dX10_line_117 rfl 2 rfl ?_
      refine q_iload_n C dX10_line_118 rfl 1 rfl ?_
      refine q_aload_n C dX10_line_119 rfl 0 rfl ?_
      refine q_get (j := 8) C dX10_line_120 (wE_0 _ _) rfl (by decide) rfl inn_X10_line_10 (by decide +kernel) rfl ?_
      refine q_aload_n C dX10_line_123 rfl 0 rfl ?_
      refine q_get (j := 7) C dX10_line_124 (wE_0 _ _) rfl (by decide) rfl inn_X10_line_10 (by decide +kernel) rfl ?_
      obtain ⟨r_12, T_11, hc, h⟩ := bd_some h
      refine q_callV (st' := [.int r_12, .int y1, .int x2, .ref (ad k.1 26)]) C dX10_line_127 [.ref (ad k.1 22)] [.int y1, .int x2, .ref (ad k.1 26)] (mtX1_movesFrom_24_22 l _ n _ _ _ hc) gX10_line_X1_movesFrom rfl hd_X1_movesFrom (by decide) (by decide) (wE_24 _ _) rfl rfl rfl (Nat.le_of_ble_eq_true rfl) rfl ?_
      clear hc
      obtain ⟨T_13, hc, h⟩ := bv_some h
      refine q_callV (st' := []) C dX10_line_130 [.int x2, .int y1, .int r_12] [] (mtX3_setStep l _ n _ _ _ _ _ hc) gX10_line_X3_setStep rfl hd_X3_setStep (by decide) (by decide) (wE_26 _ _) rfl rfl rfl (Nat.le_of_ble_eq_true rfl) rfl ?_
      clear hc
      refine q_iinc (j := 2) (v := 1) (lv' := [(0, .ref (ad k.1 0)), (1, .int y1), (2, .int (x2 + 1))]) C dX10_line_133 rfl (by decide) (by decide) rfl ?_
      refine q_goto (tgt := 82) C dX10_line_136 (by decide) ?_
      refine q_sub [0, 1, 2] rfl ?_
      exact ih _ _ h
def fX10_line_L30 (n : Nat) (kk : TS → Option (Int32 × TS)) : Nat → Int32 → TS → Option (Int32 × TS)
  | 0, _, _ => none
  | fuel + 1, x1, T => if (gI T 550) ≤ x1 then kk T else ck x1 60 (bv (fX1_lay_24_1 n (gA T 12 (Int32.toNatClampNeg x1)) T) (fun T_3 => bd (fX1_movesFrom_24_20 n T_3) (fun r_6 T_5 => bv (fX3_setFromLatest n x1 r_6 T_5) (fun T_7 => fX10_line_L82 n x1 (fun T_15 => fX10_line_L30 n kk fuel (x1 + 1) T_15) n (0 : Int32) T_7))))
set_option maxHeartbeats 4000000 in
set_option maxRecDepth 100000 in
theorem lpX10_line_L30 {l : Launch} {k : KT} {n : Nat} {kk : TS → Option (Int32 × TS)} {r : Int32} {T' : TS} (C : CX l k 4 cX10_line RX10 wsX10_line 4 (some .int) (some (.int r), T')) (hk : ∀ T1, kk T1 = some (r, T') → GW k T1 145 [(0, .ref (ad k.1 0))] []) : ∀ (fuel : Nat) (x1 : Int32) (T : TS), fX10_line_L30 n kk fuel x1 T = some (r, T') → GW k T 30 [(0, .ref (ad k.1 0)), (1, .int x1)] [] := by
  intro fuel
  induction fuel with
  | zero => intro x1 T h; cases h
  | succ fuel ih =>
    intro x1 T h
    rw [fX10_line_L30] at h
    refine q_iload_n C dX10_line_30 rfl 1 rfl ?_
    refine q_aload_n C dX10_line_31 rfl 0 rfl ?_
    refine q_get (j := 3) C dX10_line_32 (wE_0 _ _) rfl (by decide) rfl inn_X10_line_10 (by decide +kernel) rfl ?_
    refine q_get (j := 0) C dX10_line_35 (wE_11 _ _) rfl (by decide) rfl inn_X10_line_8 (by decide +kernel) rfl ?_
    refine q_icmp_ge (tgt := 145) C dX10_line_38 (by decide) h (fun c h => ?_) (fun c h => ?_)
    · refine q_sub [0] rfl ?_
      exact hk _ h
    · refine q_aload_n C dX10_line_41 rfl 0 rfl ?_
      refine q_get (j := 8) C dX10_line_42 (wE_0 _ _) rfl (by decide) rfl inn_X10_line_10 (by decide +kernel) rfl ?_
      refine q_aload_n C dX10_line_45 rfl 0 rfl ?_
      refine q_get (j := 0) C dX10_line_46 (wE_0 _ _) rfl (by decide) rfl inn_X10_line_10 (by decide +kernel) rfl ?_
      refine q_aload_n C dX10_line_49 rfl 0 rfl ?_
      refine q_get (j := 3) C dX10_line_50 (wE_0 _ _) rfl (by decide) rfl inn_X10_line_10 (by decide +kernel) rfl ?_
      refine q_get (j := 1) C dX10_line_53 (wE_11 _ _) rfl (by decide) rfl inn_X10_line_8 (by decide +kernel) rfl ?_
      refine q_iload_n C dX10_line_56 rfl 1 rfl ?_
      refine q_iald C dX10_line_57 (wE_12 _ _) h (fun h => ?_)
      obtain ⟨T_3, hc, h⟩ := bv_some h
      refine q_callV (st' := []) C dX10_line_58 [.ref (ad k.1 1), .int (gA T 12 (Int32.toNatClampNeg x1))] [] (mtX1_lay_24_1 l _ n _ _ _ hc) gX10_line_X1_lay rfl hd_X1_lay (by decide) (by decide) (wE_24 _ _) rfl rfl rfl (Nat.le_of_ble_eq_true rfl) rfl ?_
      clear hc
      refine q_aload_n C dX10_line_61 rfl 0 rfl ?_
      refine q_get (j := 9) C dX10_line_62 (wE_0 _ _) rfl (by decide) rfl inn_X10_line_10 (by decide +kernel) rfl ?_
      refine q_iload_n C dX10_line_65 rfl 1 rfl ?_
      refine q_aload_n C dX10_line_66 rfl 0 rfl ?_
      refine q_get (j := 8) C dX10_line_67 (wE_0 _ _) rfl (by decide) rfl inn_X10_line_10 (by decide +kernel) rfl ?_
      refine q_aload_n C dX10_line_70 rfl 0 rfl ?_
      refine q_get (j := 6) C dX10_line_71 (wE_0 _ _) rfl (by decide) rfl inn_X10_line_10 (by decide +kernel) rfl ?_
      obtain ⟨r_6, T_5, hc, h⟩ := bd_some h
      refine q_callV (st' := [.int r_6, .int x1, .ref (ad k.1 26)]) C dX10_line_74 [.ref (ad k.1 20)] [.int x1, .ref (ad k.1 26)] (mtX1_movesFrom_24_20 l _ n _ _ _ hc) gX10_line_X1_movesFrom rfl hd_X1_movesFrom (by decide) (by decide) (wE_24 _ _) rfl rfl rfl (Nat.le_of_ble_eq_true rfl) rfl ?_
      clear hc
      obtain ⟨T_7, hc, h⟩ := bv_some h
      refine q_callV (st' := []) C dX10_line_77 [.int x1, .int r_6] [] (mtX3_setFromLatest l _ n _ _ _ _ hc) gX10_line_X3_setFromLatest rfl hd_X3_setFromLatest (by decide) (by decide) (wE_26 _ _) rfl rfl rfl (Nat.le_of_ble_eq_true rfl) rfl ?_
      clear hc
      refine q_iconst (v := 0) C dX10_line_80 (by decide) ?_
      refine q_istore_n (lv' := [(0, .ref (ad k.1 0)), (1, .int x1), (2, .int (0 : Int32))]) C dX10_line_81 rfl (by decide) rfl ?_
      refine q_sub [0, 1, 2] rfl ?_
      refine lpX10_line_L82 C (fun T_15 h => ?_) _ _ _ h
      refine q_iinc (j := 1) (v := 1) (lv' := [(0, .ref (ad k.1 0)), (1, .int (x1 + 1))]) C dX10_line_139 rfl (by decide) (by decide) rfl ?_
      refine q_goto (tgt := 30) C dX10_line_142 (by decide) ?_
      refine q_sub [0, 1] rfl ?_
      exact ih _ _ h
def fX10_line_L173 (n : Nat) (y1 : Int32) (kk : TS → Option (Int32 × TS)) : Nat → Int32 → TS → Option (Int32 × TS)
  | 0, _, _ => none
  | fuel + 1, x2, T => if (gI T 850) ≤ x2 then kk T else bd (fX3_slotAt n x2 T) (fun r_24 T_23 => ck r_24 60 (ck r_24 60 (bv (fX8_add_11 n (gA T_23 18 (Int32.toNatClampNeg r_24)) (gA T_23 19 (Int32.toNatClampNeg r_24)) T_23) (fun T_25 => fX10_line_L173 n y1 kk fuel (x2 + 1) T_25))))
set_option maxHeartbeats 4000000 in
set_option maxRecDepth 100000 in
theorem lpX10_line_L173 {l : Launch} {k : KT} {n : Nat} {y1 : Int32} {kk : TS → Option (Int32 × TS)} {r : Int32} {T' : TS} (C : CX l k 4 cX10_line RX10 wsX10_line 4 (some .int) (some (.int r), T')) (hk : ∀ T1, kk T1 = some (r, T') → GW k T1 224 [(1, .int y1)] []) : ∀ (fuel : Nat) (x2 : Int32) (T : TS), fX10_line_L173 n y1 kk fuel x2 T = some (r, T') → GW k T 173 [(0, .ref (ad k.1 0)), (1, .int y1), (2, .int x2)] [] := by
  intro fuel
  induction fuel with
  | zero => intro x2 T h; cases h
  | succ fuel ih =>
    intro x2 T h
    rw [fX10_line_L173] at h
    refine q_iload_n C dX10_line_173 rfl 2 rfl ?_
    refine q_aload_n C dX10_line_174 rfl 0 rfl ?_
    refine q_get (j := 5) C dX10_line_175 (wE_0 _ _) rfl (by decide) rfl inn_X10_line_10 (by decide +kernel) rfl ?_
    refine q_get (j := 0) C dX10_line_178 (wE_17 _ _) rfl (by decide) rfl inn_X10_line_8 (by decide +kernel) rfl ?_
    refine q_icmp_ge (tgt := 224) C dX10_line_181 (by decide) h (fun c h => ?_) (fun c h => ?_)
    · refine q_sub [1] rfl ?_
      exact hk _ h
    · refine q_aload_n C dX10_line_184 rfl 0 rfl ?_
      refine q_get (j := 9) C dX10_line_185 (wE_0 _ _) rfl (by decide) rfl inn_X10_line_10 (by decide +kernel) rfl ?_
      refine q_iload_n C dX10_line_188 rfl 2 rfl ?_
      obtain ⟨r_24, T_23, hc, h⟩ := bd_some h
      refine q_callV (st' := [.int r_24]) C dX10_line_189 [.int x2] [] (mtX3_slotAt l _ n _ _ _ _ hc) gX10_line_X3_slotAt rfl hd_X3_slotAt (by decide) (by decide) (wE_26 _ _) rfl rfl rfl (Nat.le_of_ble_eq_true rfl) rfl ?_
      clear hc
      refine q_istore_n (lv' := [(0, .ref (ad k.1 0)), (1, .int y1), (2, .int x2), (3, .int r_24)]) C dX10_line_192 rfl (by decide) rfl ?_
      refine q_aload_n C dX10_line_193 rfl 0 rfl ?_
      refine q_get (j := 3) C dX10_line_194 (wE_0 _ _) rfl (by decide) rfl inn_X10_line_10 (by decide +kernel) rfl ?_
      refine q_aload_n C dX10_line_197 rfl 0 rfl ?_
      refine q_get (j := 5) C dX10_line_198 (wE_0 _ _) rfl (by decide) rfl inn_X10_line_10 (by decide +kernel) rfl ?_
      refine q_get (j := 1) C dX10_line_201 (wE_17 _ _) rfl (by decide) rfl inn_X10_line_8 (by decide +kernel) rfl ?_
      refine q_iload_n C dX10_line_204 rfl 3 rfl ?_
      refine q_iald C dX10_line_205 (wE_18 _ _) h (fun h => ?_)
      refine q_aload_n C dX10_line_206 rfl 0 rfl ?_
      refine q_get (j := 5) C dX10_line_207 (wE_0 _ _) rfl (by decide) rfl inn_X10_line_10 (by decide +kernel) rfl ?_
      refine q_get (j := 2) C dX10_line_210 (wE_17 _ _) rfl (by decide) rfl inn_X10_line_8 (by decide +kernel) rfl ?_
      refine q_iload_n C dX10_line_213 rfl 3 rfl ?_
      refine q_iald C dX10_line_214 (wE_19 _ _) h (fun h => ?_)
      obtain ⟨T_25, hc, h⟩ := bv_some h
      refine q_callV (st' := []) C dX10_line_215 [.int (gA T_23 18 (Int32.toNatClampNeg r_24)), .int (gA T_23 19 (Int32.toNatClampNeg r_24))] [] (mtX8_add_11 l _ n _ _ _ _ hc) gX10_line_X8_add rfl hd_X8_add (by decide) (by decide) (wE_11 _ _) rfl rfl rfl (Nat.le_of_ble_eq_true rfl) rfl ?_
      clear hc
      refine q_iinc (j := 2) (v := 1) (lv' := [(0, .ref (ad k.1 0)), (1, .int y1), (2, .int (x2 + 1)), (3, .int r_24)]) C dX10_line_218 rfl (by decide) (by decide) rfl ?_
      refine q_goto (tgt := 173) C dX10_line_221 (by decide) ?_
      refine q_sub [0, 1, 2] rfl ?_
      exact ih _ _ h
def fX10_line (n : Nat) (T : TS) : Option (Int32 × TS) := if (gI T 550) ≤ (8 : Int32) then bv (fX3_start n (gI T 550) T) (fun T_1 => fX10_line_L30 n (fun T_16 => bd (fX3_solve n T_16) (fun r_18 T_17 => bv (fX8_copyFrom_17_11 n T_17) (fun T_19 => bv (fX8_clear_11 n T_19) (fun T_21 => fX10_line_L173 n r_18 (fun T_27 => some (r_18, T_27)) n (0 : Int32) T_21)))) n (0 : Int32) T_1) else some ((-1 : Int32), T)
set_option maxHeartbeats 4000000 in
set_option maxRecDepth 100000 in
theorem mtX10_line (l : Launch) (X : XT) (n : Nat) (T T' : TS) (r : Int32) (h : fX10_line n T = some (r, T')) : Met l yX10_line wsX10_line (RM 4) (PreX X [.ref (ad X 0)] T) (QQ X (some (.int r)) T') 0 0 (xA X) := by
  refine q_start (by decide) rfl (Nat.le_of_ble_eq_true rfl) ?_
  intro k hk C
  subst hk
  show GW k T 0 [(0, .ref (ad k.1 0))] []
  unfold fX10_line at h
  refine q_aload_n C dX10_line_0 rfl 0 rfl ?_
  refine q_get (j := 3) C dX10_line_1 (wE_0 _ _) rfl (by decide) rfl inn_X10_line_10 (by decide +kernel) rfl ?_
  refine q_get (j := 0) C dX10_line_4 (wE_11 _ _) rfl (by decide) rfl inn_X10_line_8 (by decide +kernel) rfl ?_
  refine q_bipush (v := 8) C dX10_line_7 (by decide) ?_
  refine q_icmp_le (tgt := 14) C dX10_line_9 (by decide) h (fun c h => ?_) (fun c h => ?_)
  · refine q_aload_n C dX10_line_14 rfl 0 rfl ?_
    refine q_get (j := 9) C dX10_line_15 (wE_0 _ _) rfl (by decide) rfl inn_X10_line_10 (by decide +kernel) rfl ?_
    refine q_aload_n C dX10_line_18 rfl 0 rfl ?_
    refine q_get (j := 3) C dX10_line_19 (wE_0 _ _) rfl (by decide) rfl inn_X10_line_10 (by decide +kernel) rfl ?_
    refine q_get (j := 0) C dX10_line_22 (wE_11 _ _) rfl (by decide) rfl inn_X10_line_8 (by decide +kernel) rfl ?_
    obtain ⟨T_1, hc, h⟩ := bv_some h
    refine q_callV (st' := []) C dX10_line_25 [.int (gI T 550)] [] (mtX3_start l _ n _ _ _ hc) gX10_line_X3_start rfl hd_X3_start (by decide) (by decide) (wE_26 _ _) rfl rfl rfl (Nat.le_of_ble_eq_true rfl) rfl ?_
    clear hc
    refine q_iconst (v := 0) C dX10_line_28 (by decide) ?_
    refine q_istore_n (lv' := [(0, .ref (ad k.1 0)), (1, .int (0 : Int32))]) C dX10_line_29 rfl (by decide) rfl ?_
    refine q_sub [0, 1] rfl ?_
    refine lpX10_line_L30 C (fun T_16 h => ?_) _ _ _ h
    refine q_aload_n C dX10_line_145 rfl 0 rfl ?_
    refine q_get (j := 9) C dX10_line_146 (wE_0 _ _) rfl (by decide) rfl inn_X10_line_10 (by decide +kernel) rfl ?_
    obtain ⟨r_18, T_17, hc, h⟩ := bd_some h
    refine q_callV (st' := [.int r_18]) C dX10_line_149 [] [] (mtX3_solve l _ n _ _ _ hc) gX10_line_X3_solve rfl hd_X3_solve (by decide) (by decide) (wE_26 _ _) rfl rfl rfl (Nat.le_of_ble_eq_true rfl) rfl ?_
    clear hc
    refine q_istore_n (lv' := [(0, .ref (ad k.1 0)), (1, .int r_18)]) C dX10_line_152 rfl (by decide) rfl ?_
    refine q_aload_n C dX10_line_153 rfl 0 rfl ?_
    refine q_get (j := 5) C dX10_line_154 (wE_0 _ _) rfl (by decide) rfl inn_X10_line_10 (by decide +kernel) rfl ?_
    refine q_aload_n C dX10_line_157 rfl 0 rfl ?_
    refine q_get (j := 3) C dX10_line_158 (wE_0 _ _) rfl (by decide) rfl inn_X10_line_10 (by decide +kernel) rfl ?_
    obtain ⟨T_19, hc, h⟩ := bv_some h
    refine q_callV (st' := []) C dX10_line_161 [.ref (ad k.1 11)] [] (mtX8_copyFrom_17_11 l _ n _ _ hc) gX10_line_X8_copyFrom rfl hd_X8_copyFrom (by decide) (by decide) (wE_17 _ _) rfl rfl rfl (Nat.le_of_ble_eq_true rfl) rfl ?_
    clear hc
    refine q_aload_n C dX10_line_164 rfl 0 rfl ?_
    refine q_get (j := 3) C dX10_line_165 (wE_0 _ _) rfl (by decide) rfl inn_X10_line_10 (by decide +kernel) rfl ?_
    obtain ⟨T_21, hc, h⟩ := bv_some h
    refine q_callV (st' := []) C dX10_line_168 [] [] (mtX8_clear_11 l _ n _ _ hc) gX10_line_X8_clear rfl hd_X8_clear (by decide) (by decide) (wE_11 _ _) rfl rfl rfl (Nat.le_of_ble_eq_true rfl) rfl ?_
    clear hc
    refine q_iconst (v := 0) C dX10_line_171 (by decide) ?_
    refine q_istore_n (lv' := [(0, .ref (ad k.1 0)), (1, .int r_18), (2, .int (0 : Int32))]) C dX10_line_172 rfl (by decide) rfl ?_
    refine q_sub [0, 1, 2] rfl ?_
    refine lpX10_line_L173 C (fun T_27 h => ?_) _ _ _ h
    refine q_iload_n C dX10_line_224 rfl 0 rfl ?_
    exact q_ireturn C dX10_line_225 h
  · refine q_iconst (v := -1) C dX10_line_12 (by decide) ?_
    exact q_ireturn C dX10_line_13 h
def fX10_keep (n : Nat) (T : TS) : Option (TS) := bv (fX8_copyFrom_14_11 n T) (fun T_1 => nm (uI T_1 13 (1 : Int32)) (fun T_3 => some T_3))
set_option maxHeartbeats 4000000 in
set_option maxRecDepth 100000 in
theorem mtX10_keep (l : Launch) (X : XT) (n : Nat) (T T' : TS) (h : fX10_keep n T = some T') : Met l yX10_keep wsX10_keep (RM 1) (PreX X [.ref (ad X 0)] T) (QQ X none T') 0 0 (xA X) := by
  refine q_start (by decide) rfl (Nat.le_of_ble_eq_true rfl) ?_
  intro k hk C
  subst hk
  show GW k T 0 [(0, .ref (ad k.1 0))] []
  unfold fX10_keep at h
  refine q_aload_n C dX10_keep_0 rfl 0 rfl ?_
  refine q_get (j := 4) C dX10_keep_1 (wE_0 _ _) rfl (by decide) rfl inn_X10_keep_10 (by decide +kernel) rfl ?_
  refine q_aload_n C dX10_keep_4 rfl 0 rfl ?_
  refine q_get (j := 3) C dX10_keep_5 (wE_0 _ _) rfl (by decide) rfl inn_X10_keep_10 (by decide +kernel) rfl ?_
  obtain ⟨T_1, hc, h⟩ := bv_some h
  refine q_callV (st' := []) C dX10_keep_8 [.ref (ad k.1 11)] [] (mtX8_copyFrom_14_11 l _ n _ _ hc) gX10_keep_X8_copyFrom rfl hd_X8_copyFrom (by decide) (by decide) (wE_14 _ _) rfl rfl rfl (Nat.le_of_ble_eq_true rfl) rfl ?_
  clear hc
  refine q_aload_n C dX10_keep_11 rfl 0 rfl ?_
  refine q_iconst (v := 1) C dX10_keep_12 (by decide) ?_
  refine q_putI (j := 13) (ty := .boolean) C dX10_keep_13 (wE_0 _ _) (wP_0_13 _ _ _) rfl (by decide) (Nat.le_of_ble_eq_true rfl) tyX10 tyX10_ok nmX10 inn_X10_keep_10 (by decide +kernel) rfl rfl (by decide +kernel) rfl rfl h (fun T_3 h => ?_)
  exact q_vreturn C dX10_keep_16 h
def fX10_undo (n : Nat) (T : TS) : Option (Int32 × TS) := if ¬ (gI T 13) = 0 then bv (fX8_copyFrom_11_14 n T) (fun T_1 => rz (1 : Int32) T_1) else rz (0 : Int32) T
set_option maxHeartbeats 4000000 in
set_option maxRecDepth 100000 in
theorem mtX10_undo (l : Launch) (X : XT) (n : Nat) (T T' : TS) (r : Int32) (h : fX10_undo n T = some (r, T')) : Met l yX10_undo wsX10_undo (RM 1) (PreX X [.ref (ad X 0)] T) (QQ X (some (.int r)) T') 0 0 (xA X) := by
  refine q_start (by decide) rfl (Nat.le_of_ble_eq_true rfl) ?_
  intro k hk C
  subst hk
  show GW k T 0 [(0, .ref (ad k.1 0))] []
  unfold fX10_undo at h
  refine q_aload_n C dX10_undo_0 rfl 0 rfl ?_
  refine q_get (j := 13) C dX10_undo_1 (wE_0 _ _) rfl (by decide) rfl inn_X10_undo_10 (by decide +kernel) rfl ?_
  refine q_if_ne (tgt := 9) C dX10_undo_4 (by decide) h (fun c h => ?_) (fun c h => ?_)
  · refine q_aload_n C dX10_undo_9 rfl 0 rfl ?_
    refine q_get (j := 3) C dX10_undo_10 (wE_0 _ _) rfl (by decide) rfl inn_X10_undo_10 (by decide +kernel) rfl ?_
    refine q_aload_n C dX10_undo_13 rfl 0 rfl ?_
    refine q_get (j := 4) C dX10_undo_14 (wE_0 _ _) rfl (by decide) rfl inn_X10_undo_10 (by decide +kernel) rfl ?_
    obtain ⟨T_1, hc, h⟩ := bv_some h
    refine q_callV (st' := []) C dX10_undo_17 [.ref (ad k.1 14)] [] (mtX8_copyFrom_11_14 l _ n _ _ hc) gX10_undo_X8_copyFrom rfl hd_X8_copyFrom (by decide) (by decide) (wE_11 _ _) rfl rfl rfl (Nat.le_of_ble_eq_true rfl) rfl ?_
    clear hc
    refine q_iconst (v := 1) C dX10_undo_20 (by decide) ?_
    exact q_zreturn C dX10_undo_21 h
  · refine q_iconst (v := 0) C dX10_undo_7 (by decide) ?_
    exact q_zreturn C dX10_undo_8 h
def fX10_lot (n : Nat) (p0 : Int32) (p1 : Int32) (p2 : Int32) (T : TS) : Option (Int32 × TS) := bd (fX10_within n p0 (1 : Int32) (100000 : Int32) T) (fun r_2 T_1 => if r_2 = 0 then some ((-1 : Int32), T_1) else bd (fX10_within n p1 (0 : Int32) (1000 : Int32) T_1) (fun r_4 T_3 => if r_4 = 0 then some ((-1 : Int32), T_3) else bd (fX9_isFull n T_3) (fun r_6 T_5 => if r_6 = 0 then bv (fX9_add n p0 p1 p2 T_5) (fun T_7 => some (((gI T_7 1800) - (1 : Int32)), T_7)) else some ((-1 : Int32), T_5))))
set_option maxHeartbeats 4000000 in
set_option maxRecDepth 100000 in
theorem mtX10_lot (l : Launch) (X : XT) (n : Nat) (p0 : Int32) (p1 : Int32) (p2 : Int32) (T T' : TS) (r : Int32) (h : fX10_lot n p0 p1 p2 T = some (r, T')) : Met l yX10_lot wsX10_lot (RM 2) (PreX X [.ref (ad X 0), .int p0, .int p1, .int p2] T) (QQ X (some (.int r)) T') 0 0 (xA X) := by
  refine q_start (by decide) rfl (Nat.le_of_ble_eq_true rfl) ?_
  intro k hk C
  subst hk
  show GW k T 0 [(0, .ref (ad k.1 0)), (1, .int p0), (2, .int p1), (3, .int p2)] []
  unfold fX10_lot at h
  refine q_iload_n C dX10_lot_0 rfl 1 rfl ?_
  refine q_iconst (v := 1) C dX10_lot_1 (by decide) ?_
  refine q_ldcw (v := 100000) C dX10_lot_2 (by decide +kernel) ?_
  obtain ⟨r_2, T_1, hc, h⟩ := bd_some h
  refine q_callS (st' := [.int r_2]) C dX10_lot_5 [.int p0, .int (1 : Int32), .int (100000 : Int32)] [] (mtX10_within l _ n _ _ _ _ _ _ hc) gX10_lot_X10_within rfl hd_X10_within (by decide) (by decide) rfl rfl (Nat.le_of_ble_eq_true rfl) rfl ?_
  clear hc
  refine q_if_eq (tgt := 32) C dX10_lot_8 (by decide) h (fun c h => ?_) (fun c h => ?_)
  · refine q_iconst (v := -1) C dX10_lot_32 (by decide) ?_
    exact q_ireturn C dX10_lot_33 h
  · refine q_iload_n C dX10_lot_11 rfl 2 rfl ?_
    refine q_iconst (v := 0) C dX10_lot_12 (by decide) ?_
    refine q_sipush (v := 1000) C dX10_lot_13 (by decide) ?_
    obtain ⟨r_4, T_3, hc, h⟩ := bd_some h
    refine q_callS (st' := [.int r_4]) C dX10_lot_16 [.int p1, .int (0 : Int32), .int (1000 : Int32)] [] (mtX10_within l _ n _ _ _ _ _ _ hc) gX10_lot_X10_within rfl hd_X10_within (by decide) (by decide) rfl rfl (Nat.le_of_ble_eq_true rfl) rfl ?_
    clear hc
    refine q_if_eq (tgt := 32) C dX10_lot_19 (by decide) h (fun c h => ?_) (fun c h => ?_)
    · refine q_iconst (v := -1) C dX10_lot_32 (by decide) ?_
      exact q_ireturn C dX10_lot_33 h
    · refine q_aload_n C dX10_lot_22 rfl 0 rfl ?_
      refine q_get (j := 11) C dX10_lot_23 (wE_0 _ _) rfl (by decide) rfl inn_X10_lot_10 (by decide +kernel) rfl ?_
      obtain ⟨r_6, T_5, hc, h⟩ := bd_some h
      refine q_callV (st' := [.int r_6]) C dX10_lot_26 [] [] (mtX9_isFull l _ n _ _ _ hc) gX10_lot_X9_isFull rfl hd_X9_isFull (by decide) (by decide) (wE_36 _ _) rfl rfl rfl (Nat.le_of_ble_eq_true rfl) rfl ?_
      clear hc
      refine q_if_eq (tgt := 34) C dX10_lot_29 (by decide) h (fun c h => ?_) (fun c h => ?_)
      · refine q_aload_n C dX10_lot_34 rfl 0 rfl ?_
        refine q_get (j := 11) C dX10_lot_35 (wE_0 _ _) rfl (by decide) rfl inn_X10_lot_10 (by decide +kernel) rfl ?_
        refine q_iload_n C dX10_lot_38 rfl 1 rfl ?_
        refine q_iload_n C dX10_lot_39 rfl 2 rfl ?_
        refine q_iload_n C dX10_lot_40 rfl 3 rfl ?_
        obtain ⟨T_7, hc, h⟩ := bv_some h
        refine q_callV (st' := []) C dX10_lot_41 [.int p0, .int p1, .int p2] [] (mtX9_add l _ n _ _ _ _ _ hc) gX10_lot_X9_add rfl hd_X9_add (by decide) (by decide) (wE_36 _ _) rfl rfl rfl (Nat.le_of_ble_eq_true rfl) rfl ?_
        clear hc
        refine q_aload_n C dX10_lot_44 rfl 0 rfl ?_
        refine q_get (j := 11) C dX10_lot_45 (wE_0 _ _) rfl (by decide) rfl inn_X10_lot_10 (by decide +kernel) rfl ?_
        refine q_get (j := 0) C dX10_lot_48 (wE_36 _ _) rfl (by decide) rfl inn_X10_lot_9 (by decide +kernel) rfl ?_
        refine q_iconst (v := 1) C dX10_lot_51 (by decide) ?_
        refine q_isub C dX10_lot_52 ?_
        exact q_ireturn C dX10_lot_53 h
      · refine q_iconst (v := -1) C dX10_lot_32 (by decide) ?_
        exact q_ireturn C dX10_lot_33 h
def fX10_lotted (n : Nat) (p0 : Int32) (p1 : Int32) (T : TS) : Option (Int32 × TS) := bd (fX9_isLot n p0 T) (fun r_2 T_1 => if ¬ r_2 = 0 then if p1 = 0 then ck p0 8 (some ((gA T_1 37 (Int32.toNatClampNeg p0)), T_1)) else if p1 = 1 then ck p0 8 (some ((gA T_1 38 (Int32.toNatClampNeg p0)), T_1)) else if p1 = 2 then ck p0 8 (if (gA T_1 39 (Int32.toNatClampNeg p0)) = 0 then some ((0 : Int32), T_1) else some ((1 : Int32), T_1)) else some ((-1 : Int32), T_1) else some ((-1 : Int32), T_1))
set_option maxHeartbeats 4000000 in
set_option maxRecDepth 100000 in
theorem mtX10_lotted (l : Launch) (X : XT) (n : Nat) (p0 : Int32) (p1 : Int32) (T T' : TS) (r : Int32) (h : fX10_lotted n p0 p1 T = some (r, T')) : Met l yX10_lotted wsX10_lotted (RM 1) (PreX X [.ref (ad X 0), .int p0, .int p1] T) (QQ X (some (.int r)) T') 0 0 (xA X) := by
  refine q_start (by decide) rfl (Nat.le_of_ble_eq_true rfl) ?_
  intro k hk C
  subst hk
  show GW k T 0 [(0, .ref (ad k.1 0)), (1, .int p0), (2, .int p1)] []
  unfold fX10_lotted at h
  refine q_aload_n C dX10_lotted_0 rfl 0 rfl ?_
  refine q_get (j := 11) C dX10_lotted_1 (wE_0 _ _) rfl (by decide) rfl inn_X10_lotted_10 (by decide +kernel) rfl ?_
  refine q_iload_n C dX10_lotted_4 rfl 1 rfl ?_
  obtain ⟨r_2, T_1, hc, h⟩ := bd_some h
  refine q_callV (st' := [.int r_2]) C dX10_lotted_5 [.int p0] [] (mtX9_isLot l _ n _ _ _ _ hc) gX10_lotted_X9_isLot rfl hd_X9_isLot (by decide) (by decide) (wE_36 _ _) rfl rfl rfl (Nat.le_of_ble_eq_true rfl) rfl ?_
  clear hc
  refine q_if_ne (tgt := 13) C dX10_lotted_8 (by decide) h (fun c h => ?_) (fun c h => ?_)
  · refine q_iload_n C dX10_lotted_13 rfl 2 rfl ?_
    refine q_case (v := 0) h (fun e h => ?_) (fun c0 h => ?_)
    · refine q_tswIn (tgt := 40) C dX10_lotted_14 e (by decide) (by decide) (by rfl) (by decide) ?_
      refine q_aload_n C dX10_lotted_40 rfl 0 rfl ?_
      refine q_get (j := 11) C dX10_lotted_41 (wE_0 _ _) rfl (by decide) rfl inn_X10_lotted_10 (by decide +kernel) rfl ?_
      refine q_get (j := 1) C dX10_lotted_44 (wE_36 _ _) rfl (by decide) rfl inn_X10_lotted_9 (by decide +kernel) rfl ?_
      refine q_iload_n C dX10_lotted_47 rfl 1 rfl ?_
      refine q_iald C dX10_lotted_48 (wE_37 _ _) h (fun h => ?_)
      exact q_ireturn C dX10_lotted_49 h
    refine q_case (v := 1) h (fun e h => ?_) (fun c1 h => ?_)
    · refine q_tswIn (tgt := 50) C dX10_lotted_14 e (by decide) (by decide) (by rfl) (by decide) ?_
      refine q_aload_n C dX10_lotted_50 rfl 0 rfl ?_
      refine q_get (j := 11) C dX10_lotted_51 (wE_0 _ _) rfl (by decide) rfl inn_X10_lotted_10 (by decide +kernel) rfl ?_
      refine q_get (j := 2) C dX10_lotted_54 (wE_36 _ _) rfl (by decide) rfl inn_X10_lotted_9 (by decide +kernel) rfl ?_
      refine q_iload_n C dX10_lotted_57 rfl 1 rfl ?_
      refine q_iald C dX10_lotted_58 (wE_38 _ _) h (fun h => ?_)
      exact q_ireturn C dX10_lotted_59 h
    refine q_case (v := 2) h (fun e h => ?_) (fun c2 h => ?_)
    · refine q_tswIn (tgt := 60) C dX10_lotted_14 e (by decide) (by decide) (by rfl) (by decide) ?_
      refine q_aload_n C dX10_lotted_60 rfl 0 rfl ?_
      refine q_get (j := 11) C dX10_lotted_61 (wE_0 _ _) rfl (by decide) rfl inn_X10_lotted_10 (by decide +kernel) rfl ?_
      refine q_get (j := 3) C dX10_lotted_64 (wE_36 _ _) rfl (by decide) rfl inn_X10_lotted_9 (by decide +kernel) rfl ?_
      refine q_iload_n C dX10_lotted_67 rfl 1 rfl ?_
      refine q_zald C dX10_lotted_68 (wE_39 _ _) h (fun h => ?_)
      refine q_if_eq (tgt := 76) C dX10_lotted_69 (by decide) h (fun c h => ?_) (fun c h => ?_)
      · refine q_iconst (v := 0) C dX10_lotted_76 (by decide) ?_
        exact q_ireturn C dX10_lotted_77 h
      · refine q_iconst (v := 1) C dX10_lotted_72 (by decide) ?_
        refine q_goto (tgt := 77) C dX10_lotted_73 (by decide) ?_
        exact q_ireturn C dX10_lotted_77 h
    refine q_tswOut (tgt := 78) C dX10_lotted_14 (by have w0 := c0; simp only [show ((0 : Int32)).toInt = 0 from rfl] at c0; simp only [show ((1 : Int32)).toInt = 1 from rfl] at c1; simp only [show ((2 : Int32)).toInt = 2 from rfl] at c2; omega) (by decide) ?_
    refine q_iconst (v := -1) C dX10_lotted_78 (by decide) ?_
    exact q_ireturn C dX10_lotted_79 h
  · refine q_iconst (v := -1) C dX10_lotted_11 (by decide) ?_
    exact q_ireturn C dX10_lotted_12 h
def fX10_refusalOfCut (n : Nat) (p0 : Int32) (p1 : Int32) (p2 : Int32) (T : TS) : Option (Int32 × TS) := bd (fX8_isSlot_11 n p0 T) (fun r_2 T_1 => if ¬ r_2 = 0 then bd (fX9_isLot n p1 T_1) (fun r_4 T_3 => if ¬ r_4 = 0 then ck p1 8 (if (1 : Int32) ≤ (gA T_3 38 (Int32.toNatClampNeg p1)) then ck p1 8 (bd (fX10_within n p2 (1 : Int32) (gA T_3 37 (Int32.toNatClampNeg p1)) T_3) (fun r_6 T_5 => if ¬ r_6 = 0 then ck p1 8 (if (gA T_5 39 (Int32.toNatClampNeg p1)) = 0 then some ((0 : Int32), T_5) else ck p0 60 (bd (fX4_fitsFlawed n (gA T_5 12 (Int32.toNatClampNeg p0)) T_5) (fun r_8 T_7 => if ¬ r_8 = 0 then some ((0 : Int32), T_7) else some ((5 : Int32), T_7)))) else some ((4 : Int32), T_5))) else some ((3 : Int32), T_3)) else some ((2 : Int32), T_3)) else some ((1 : Int32), T_1))
set_option maxHeartbeats 4000000 in
set_option maxRecDepth 100000 in
theorem mtX10_refusalOfCut (l : Launch) (X : XT) (n : Nat) (p0 : Int32) (p1 : Int32) (p2 : Int32) (T T' : TS) (r : Int32) (h : fX10_refusalOfCut n p0 p1 p2 T = some (r, T')) : Met l yX10_refusalOfCut wsX10_refusalOfCut (RM 11) (PreX X [.ref (ad X 0), .int p0, .int p1, .int p2] T) (QQ X (some (.int r)) T') 0 0 (xA X) := by
  refine q_start (by decide) rfl (Nat.le_of_ble_eq_true rfl) ?_
  intro k hk C
  subst hk
  show GW k T 0 [(0, .ref (ad k.1 0)), (1, .int p0), (2, .int p1), (3, .int p2)] []
  unfold fX10_refusalOfCut at h
  refine q_aload_n C dX10_refusalOfCut_0 rfl 0 rfl ?_
  refine q_get (j := 3) C dX10_refusalOfCut_1 (wE_0 _ _) rfl (by decide) rfl inn_X10_refusalOfCut_10 (by decide +kernel) rfl ?_
  refine q_iload_n C dX10_refusalOfCut_4 rfl 1 rfl ?_
  obtain ⟨r_2, T_1, hc, h⟩ := bd_some h
  refine q_callV (st' := [.int r_2]) C dX10_refusalOfCut_5 [.int p0] [] (mtX8_isSlot_11 l _ n _ _ _ _ hc) gX10_refusalOfCut_X8_isSlot rfl hd_X8_isSlot (by decide) (by decide) (wE_11 _ _) rfl rfl rfl (Nat.le_of_ble_eq_true rfl) rfl ?_
  clear hc
  refine q_if_ne (tgt := 13) C dX10_refusalOfCut_8 (by decide) h (fun c h => ?_) (fun c h => ?_)
  · refine q_aload_n C dX10_refusalOfCut_13 rfl 0 rfl ?_
    refine q_get (j := 11) C dX10_refusalOfCut_14 (wE_0 _ _) rfl (by decide) rfl inn_X10_refusalOfCut_10 (by decide +kernel) rfl ?_
    refine q_iload_n C dX10_refusalOfCut_17 rfl 2 rfl ?_
    obtain ⟨r_4, T_3, hc, h⟩ := bd_some h
    refine q_callV (st' := [.int r_4]) C dX10_refusalOfCut_18 [.int p1] [] (mtX9_isLot l _ n _ _ _ _ hc) gX10_refusalOfCut_X9_isLot rfl hd_X9_isLot (by decide) (by decide) (wE_36 _ _) rfl rfl rfl (Nat.le_of_ble_eq_true rfl) rfl ?_
    clear hc
    refine q_if_ne (tgt := 26) C dX10_refusalOfCut_21 (by decide) h (fun c h => ?_) (fun c h => ?_)
    · refine q_aload_n C dX10_refusalOfCut_26 rfl 0 rfl ?_
      refine q_get (j := 11) C dX10_refusalOfCut_27 (wE_0 _ _) rfl (by decide) rfl inn_X10_refusalOfCut_10 (by decide +kernel) rfl ?_
      refine q_get (j := 2) C dX10_refusalOfCut_30 (wE_36 _ _) rfl (by decide) rfl inn_X10_refusalOfCut_9 (by decide +kernel) rfl ?_
      refine q_iload_n C dX10_refusalOfCut_33 rfl 2 rfl ?_
      refine q_iald C dX10_refusalOfCut_34 (wE_38 _ _) h (fun h => ?_)
      refine q_iconst (v := 1) C dX10_refusalOfCut_35 (by decide) ?_
      refine q_icmp_ge (tgt := 41) C dX10_refusalOfCut_36 (by decide) h (fun c h => ?_) (fun c h => ?_)
      · refine q_iload_n C dX10_refusalOfCut_41 rfl 3 rfl ?_
        refine q_iconst (v := 1) C dX10_refusalOfCut_42 (by decide) ?_
        refine q_aload_n C dX10_refusalOfCut_43 rfl 0 rfl ?_
        refine q_get (j := 11) C dX10_refusalOfCut_44 (wE_0 _ _) rfl (by decide) rfl inn_X10_refusalOfCut_10 (by decide +kernel) rfl ?_
        refine q_get (j := 1) C dX10_refusalOfCut_47 (wE_36 _ _) rfl (by decide) rfl inn_X10_refusalOfCut_9 (by decide +kernel) rfl ?_
        refine q_iload_n C dX10_refusalOfCut_50 rfl 2 rfl ?_
        refine q_iald C dX10_refusalOfCut_51 (wE_37 _ _) h (fun h => ?_)
        obtain ⟨r_6, T_5, hc, h⟩ := bd_some h
        refine q_callS (st' := [.int r_6]) C dX10_refusalOfCut_52 [.int p2, .int (1 : Int32), .int (gA T_3 37 (Int32.toNatClampNeg p1))] [] (mtX10_within l _ n _ _ _ _ _ _ hc) gX10_refusalOfCut_X10_within rfl hd_X10_within (by decide) (by decide) rfl rfl (Nat.le_of_ble_eq_true rfl) rfl ?_
        clear hc
        refine q_if_ne (tgt := 60) C dX10_refusalOfCut_55 (by decide) h (fun c h => ?_) (fun c h => ?_)
        · refine q_aload_n C dX10_refusalOfCut_60 rfl 0 rfl ?_
          refine q_get (j := 11) C dX10_refusalOfCut_61 (wE_0 _ _) rfl (by decide) rfl inn_X10_refusalOfCut_10 (by decide +kernel) rfl ?_
          refine q_get (j := 3) C dX10_refusalOfCut_64 (wE_36 _ _) rfl (by decide) rfl inn_X10_refusalOfCut_9 (by decide +kernel) rfl ?_
          refine q_iload_n C dX10_refusalOfCut_67 rfl 2 rfl ?_
          refine q_zald C dX10_refusalOfCut_68 (wE_39 _ _) h (fun h => ?_)
          refine q_if_eq (tgt := 95) C dX10_refusalOfCut_69 (by decide) h (fun c h => ?_) (fun c h => ?_)
          · refine q_iconst (v := 0) C dX10_refusalOfCut_95 (by decide) ?_
            exact q_ireturn C dX10_refusalOfCut_96 h
          · refine q_aload_n C dX10_refusalOfCut_72 rfl 0 rfl ?_
            refine q_get (j := 0) C dX10_refusalOfCut_73 (wE_0 _ _) rfl (by decide) rfl inn_X10_refusalOfCut_10 (by decide +kernel) rfl ?_
            refine q_aload_n C dX10_refusalOfCut_76 rfl 0 rfl ?_
            refine q_get (j := 3) C dX10_refusalOfCut_77 (wE_0 _ _) rfl (by decide) rfl inn_X10_refusalOfCut_10 (by decide +kernel) rfl ?_
            refine q_get (j := 1) C dX10_refusalOfCut_80 (wE_11 _ _) rfl (by decide) rfl inn_X10_refusalOfCut_8 (by decide +kernel) rfl ?_
            refine q_iload_n C dX10_refusalOfCut_83 rfl 1 rfl ?_
            refine q_iald C dX10_refusalOfCut_84 (wE_12 _ _) h (fun h => ?_)
            obtain ⟨r_8, T_7, hc, h⟩ := bd_some h
            refine q_callV (st' := [.int r_8]) C dX10_refusalOfCut_85 [.int (gA T_5 12 (Int32.toNatClampNeg p0))] [] (mtX4_fitsFlawed l _ n _ _ _ _ hc) gX10_refusalOfCut_X4_fitsFlawed rfl hd_X4_fitsFlawed (by decide) (by decide) (wE_1 _ _) rfl rfl rfl (Nat.le_of_ble_eq_true rfl) rfl ?_
            clear hc
            refine q_if_ne (tgt := 95) C dX10_refusalOfCut_88 (by decide) h (fun c h => ?_) (fun c h => ?_)
            · refine q_iconst (v := 0) C dX10_refusalOfCut_95 (by decide) ?_
              exact q_ireturn C dX10_refusalOfCut_96 h
            · refine q_iconst (v := 5) C dX10_refusalOfCut_91 (by decide) ?_
              refine q_goto (tgt := 96) C dX10_refusalOfCut_92 (by decide) ?_
              exact q_ireturn C dX10_refusalOfCut_96 h
        · refine q_iconst (v := 4) C dX10_refusalOfCut_58 (by decide) ?_
          exact q_ireturn C dX10_refusalOfCut_59 h
      · refine q_iconst (v := 3) C dX10_refusalOfCut_39 (by decide) ?_
        exact q_ireturn C dX10_refusalOfCut_40 h
    · refine q_iconst (v := 2) C dX10_refusalOfCut_24 (by decide) ?_
      exact q_ireturn C dX10_refusalOfCut_25 h
  · refine q_iconst (v := 1) C dX10_refusalOfCut_11 (by decide) ?_
    exact q_ireturn C dX10_refusalOfCut_12 h
def fX10_cut (n : Nat) (p0 : Int32) (p1 : Int32) (p2 : Int32) (T : TS) : Option (Int32 × TS) := bd (fX10_refusalOfCut n p0 p1 p2 T) (fun r_2 T_1 => if r_2 = 0 then ck p0 60 (nm (gA T_1 12 (Int32.toNatClampNeg p0)) (fun x5_3 => ck p1 8 (nm (gA T_1 37 (Int32.toNatClampNeg p1)) (fun x6_4 => bd (fX10_quotient n p2 (gI T_1 14) T_1) (fun r_6 T_5 => bd (fX9_takeRoll n p1 p2 (gI T_5 14) T_5) (fun r_8 T_7 => bv (fX6_addDone n x5_3 r_6 T_7) (fun T_9 => nm (uJ T_9 0 ((gJ T_9 0) + ((Int32.toInt64 (gI T_9 50)) * (Int32.toInt64 x6_4)))) (fun T_11 => bd (fX4_spanOf n x5_3 T_11) (fun r_13 T_12 => nm (uJ T_12 1 ((gJ T_11 1) + (((Int32.toInt64 (gI T_11 14)) * (Int32.toInt64 r_6)) * (Int32.toInt64 r_13)))) (fun T_14 => nm (uJ T_14 2 ((gJ T_14 2) + ((Int32.toInt64 (gI T_14 50)) * (Int32.toInt64 r_8)))) (fun T_15 => nm (uJ T_15 3 ((gJ T_15 3) + (1 : Int64))) (fun T_16 => nm (uJ T_16 4 ((gJ T_16 4) + (Int32.toInt64 r_6))) (fun T_17 => bv (fX1_lay_24_1 n x5_3 T_17) (fun T_18 => bd (fX1_movesFrom_24_20 n T_18) (fun r_21 T_20 => nm (uJ T_20 5 ((gJ T_18 5) + (Int32.toInt64 r_21))) (fun T_22 => bv (fX1_copyFrom_20_24 n T_22) (fun T_23 => bv (fX8_takeRoll_11 n p0 T_23) (fun T_25 => some ((0 : Int32), T_25))))))))))))))))))) else some (r_2, T_1))
set_option maxHeartbeats 4000000 in
set_option maxRecDepth 100000 in
theorem mtX10_cut (l : Launch) (X : XT) (n : Nat) (p0 : Int32) (p1 : Int32) (p2 : Int32) (T T' : TS) (r : Int32) (h : fX10_cut n p0 p1 p2 T = some (r, T')) : Met l yX10_cut wsX10_cut (RM 12) (PreX X [.ref (ad X 0), .int p0, .int p1, .int p2] T) (QQ X (some (.int r)) T') 0 0 (xA X) := by
  refine q_start (by decide) rfl (Nat.le_of_ble_eq_true rfl) ?_
  intro k hk C
  subst hk
  show GW k T 0 [(0, .ref (ad k.1 0)), (1, .int p0), (2, .int p1), (3, .int p2)] []
  unfold fX10_cut at h
  refine q_aload_n C dX10_cut_0 rfl 0 rfl ?_
  refine q_iload_n C dX10_cut_1 rfl 1 rfl ?_
  refine q_iload_n C dX10_cut_2 rfl 2 rfl ?_
  refine q_iload_n C dX10_cut_3 rfl 3 rfl ?_
  obtain ⟨r_2, T_1, hc, h⟩ := bd_some h
  refine q_callV (st' := [.int r_2]) C dX10_cut_4 [.int p0, .int p1, .int p2] [] (mtX10_refusalOfCut l _ n _ _ _ _ _ _ hc) gX10_cut_X10_refusalOfCut rfl hd_X10_refusalOfCut (by decide) (by decide) (wE_0 _ _) rfl rfl rfl (Nat.le_of_ble_eq_true rfl) rfl ?_
  clear hc
  refine q_istore (lv' := [(0, .ref (ad k.1 0)), (1, .int p0), (2, .int p1), (3, .int p2), (4, .int r_2)]) C dX10_cut_7 (by decide) rfl ?_
  refine q_iload C dX10_cut_9 4 rfl ?_
  refine q_if_eq (tgt := 17) C dX10_cut_11 (by decide) h (fun c h => ?_) (fun c h => ?_)
  · refine q_aload_n C dX10_cut_17 rfl 0 rfl ?_
    refine q_get (j := 3) C dX10_cut_18 (wE_0 _ _) rfl (by decide) rfl inn_X10_cut_10 (by decide +kernel) rfl ?_
    refine q_get (j := 1) C dX10_cut_21 (wE_11 _ _) rfl (by decide) rfl inn_X10_cut_8 (by decide +kernel) rfl ?_
    refine q_iload_n C dX10_cut_24 rfl 1 rfl ?_
    refine q_iald C dX10_cut_25 (wE_12 _ _) h (fun h => ?_)
    refine q_nm h (fun x5_3 h => ?_)
    refine q_istore (lv' := [(0, .ref (ad k.1 0)), (1, .int p0), (2, .int p1), (3, .int p2), (4, .int r_2), (5, .int x5_3)]) C dX10_cut_26 (by decide) rfl ?_
    refine q_aload_n C dX10_cut_28 rfl 0 rfl ?_
    refine q_get (j := 11) C dX10_cut_29 (wE_0 _ _) rfl (by decide) rfl inn_X10_cut_10 (by decide +kernel) rfl ?_
    refine q_get (j := 1) C dX10_cut_32 (wE_36 _ _) rfl (by decide) rfl inn_X10_cut_9 (by decide +kernel) rfl ?_
    refine q_iload_n C dX10_cut_35 rfl 2 rfl ?_
    refine q_iald C dX10_cut_36 (wE_37 _ _) h (fun h => ?_)
    refine q_nm h (fun x6_4 h => ?_)
    refine q_istore (lv' := [(0, .ref (ad k.1 0)), (1, .int p0), (2, .int p1), (3, .int p2), (4, .int r_2), (5, .int x5_3), (6, .int x6_4)]) C dX10_cut_37 (by decide) rfl ?_
    refine q_iload_n C dX10_cut_39 rfl 3 rfl ?_
    refine q_aload_n C dX10_cut_40 rfl 0 rfl ?_
    refine q_get (j := 14) C dX10_cut_41 (wE_0 _ _) rfl (by decide) rfl inn_X10_cut_10 (by decide +kernel) rfl ?_
    obtain ⟨r_6, T_5, hc, h⟩ := bd_some h
    refine q_callS (st' := [.int r_6]) C dX10_cut_44 [.int p2, .int (gI T_1 14)] [] (mtX10_quotient l _ n _ _ _ _ _ hc) gX10_cut_X10_quotient rfl hd_X10_quotient (by decide) (by decide) rfl rfl (Nat.le_of_ble_eq_true rfl) rfl ?_
    clear hc
    refine q_istore (lv' := [(0, .ref (ad k.1 0)), (1, .int p0), (2, .int p1), (3, .int p2), (4, .int r_2), (5, .int x5_3), (6, .int x6_4), (7, .int r_6)]) C dX10_cut_47 (by decide) rfl ?_
    refine q_aload_n C dX10_cut_49 rfl 0 rfl ?_
    refine q_get (j := 11) C dX10_cut_50 (wE_0 _ _) rfl (by decide) rfl inn_X10_cut_10 (by decide +kernel) rfl ?_
    refine q_iload_n C dX10_cut_53 rfl 2 rfl ?_
    refine q_iload_n C dX10_cut_54 rfl 3 rfl ?_
    refine q_aload_n C dX10_cut_55 rfl 0 rfl ?_
    refine q_get (j := 14) C dX10_cut_56 (wE_0 _ _) rfl (by decide) rfl inn_X10_cut_10 (by decide +kernel) rfl ?_
    obtain ⟨r_8, T_7, hc, h⟩ := bd_some h
    refine q_callV (st' := [.int r_8]) C dX10_cut_59 [.int p1, .int p2, .int (gI T_5 14)] [] (mtX9_takeRoll l _ n _ _ _ _ _ _ hc) gX10_cut_X9_takeRoll rfl hd_X9_takeRoll (by decide) (by decide) (wE_36 _ _) rfl rfl rfl (Nat.le_of_ble_eq_true rfl) rfl ?_
    clear hc
    refine q_istore (lv' := [(0, .ref (ad k.1 0)), (1, .int p0), (2, .int p1), (3, .int p2), (4, .int r_2), (5, .int x5_3), (6, .int x6_4), (7, .int r_6), (8, .int r_8)]) C dX10_cut_62 (by decide) rfl ?_
    refine q_aload_n C dX10_cut_64 rfl 0 rfl ?_
    refine q_get (j := 2) C dX10_cut_65 (wE_0 _ _) rfl (by decide) rfl inn_X10_cut_10 (by decide +kernel) rfl ?_
    refine q_iload C dX10_cut_68 5 rfl ?_
    refine q_iload C dX10_cut_70 7 rfl ?_
    obtain ⟨T_9, hc, h⟩ := bv_some h
    refine q_callV (st' := []) C dX10_cut_72 [.int x5_3, .int r_6] [] (mtX6_addDone l _ n _ _ _ _ hc) gX10_cut_X6_addDone rfl hd_X6_addDone (by decide) (by decide) (wE_6 _ _) rfl rfl rfl (Nat.le_of_ble_eq_true rfl) rfl ?_
    clear hc
    refine q_aload_n C dX10_cut_75 rfl 0 rfl ?_
    refine q_get (j := 12) C dX10_cut_76 (wE_0 _ _) rfl (by decide) rfl inn_X10_cut_10 (by decide +kernel) rfl ?_
    refine q_dup C dX10_cut_79 rfl ?_
    refine q_get (j := 0) C dX10_cut_80 (wE_40 _ _) rfl (by decide) rfl inn_X10_cut_2 (by decide +kernel) rfl ?_
    refine q_aload_n C dX10_cut_83 rfl 0 rfl ?_
    refine q_get (j := 0) C dX10_cut_84 (wE_0 _ _) rfl (by decide) rfl inn_X10_cut_10 (by decide +kernel) rfl ?_
    refine q_get (j := 0) C dX10_cut_87 (wE_1 _ _) rfl (by decide) rfl inn_X10_cut_4 (by decide +kernel) rfl ?_
    refine q_i2l C dX10_cut_90 ?_
    refine q_iload C dX10_cut_91 6 rfl ?_
    refine q_i2l C dX10_cut_93 ?_
    refine q_lmul C dX10_cut_94 ?_
    refine q_ladd C dX10_cut_95 ?_
    refine q_putJ (j := 0) C dX10_cut_96 (wE_40 _ _) (wP_40_0 _ _ _) rfl (by decide) (Nat.le_of_ble_eq_true rfl) tyX2 tyX2_ok nmX2 inn_X10_cut_2 (by decide +kernel) rfl rfl (by decide +kernel) h (fun T_11 h => ?_)
    refine q_aload_n C dX10_cut_99 rfl 0 rfl ?_
    refine q_get (j := 12) C dX10_cut_100 (wE_0 _ _) rfl (by decide) rfl inn_X10_cut_10 (by decide +kernel) rfl ?_
    refine q_dup C dX10_cut_103 rfl ?_
    refine q_get (j := 1) C dX10_cut_104 (wE_40 _ _) rfl (by decide) rfl inn_X10_cut_2 (by decide +kernel) rfl ?_
    refine q_aload_n C dX10_cut_107 rfl 0 rfl ?_
    refine q_get (j := 14) C dX10_cut_108 (wE_0 _ _) rfl (by decide) rfl inn_X10_cut_10 (by decide +kernel) rfl ?_
    refine q_i2l C dX10_cut_111 ?_
    refine q_iload C dX10_cut_112 7 rfl ?_
    refine q_i2l C dX10_cut_114 ?_
    refine q_lmul C dX10_cut_115 ?_
    refine q_aload_n C dX10_cut_116 rfl 0 rfl ?_
    refine q_get (j := 0) C dX10_cut_117 (wE_0 _ _) rfl (by decide) rfl inn_X10_cut_10 (by decide +kernel) rfl ?_
    refine q_iload C dX10_cut_120 5 rfl ?_
    obtain ⟨r_13, T_12, hc, h⟩ := bd_some h
    refine q_callV (st' := [.int r_13, .long ((Int32.toInt64 (gI T_11 14)) * (Int32.toInt64 r_6)), .long (gJ T_11 1), .ref (ad k.1 40)]) C dX10_cut_122 [.int x5_3] [.long ((Int32.toInt64 (gI T_11 14)) * (Int32.toInt64 r_6)), .long (gJ T_11 1), .ref (ad k.1 40)] (mtX4_spanOf l _ n _ _ _ _ hc) gX10_cut_X4_spanOf rfl hd_X4_spanOf (by decide) (by decide) (wE_1 _ _) rfl rfl rfl (Nat.le_of_ble_eq_true rfl) rfl ?_
    clear hc
    refine q_i2l C dX10_cut_125 ?_
    refine q_lmul C dX10_cut_126 ?_
    refine q_ladd C dX10_cut_127 ?_
    refine q_putJ (j := 1) C dX10_cut_128 (wE_40 _ _) (wP_40_1 _ _ _) rfl (by decide) (Nat.le_of_ble_eq_true rfl) tyX2 tyX2_ok nmX2 inn_X10_cut_2 (by decide +kernel) rfl rfl (by decide +kernel) h (fun T_14 h => ?_)
    refine q_aload_n C dX10_cut_131 rfl 0 rfl ?_
    refine q_get (j := 12) C dX10_cut_132 (wE_0 _ _) rfl (by decide) rfl inn_X10_cut_10 (by decide +kernel) rfl ?_
    refine q_dup C dX10_cut_135 rfl ?_
    refine q_get (j := 2) C dX10_cut_136 (wE_40 _ _) rfl (by decide) rfl inn_X10_cut_2 (by decide +kernel) rfl ?_
    refine q_aload_n C dX10_cut_139 rfl 0 rfl ?_
    refine q_get (j := 0) C dX10_cut_140 (wE_0 _ _) rfl (by decide) rfl inn_X10_cut_10 (by decide +kernel) rfl ?_
    refine q_get (j := 0) C dX10_cut_143 (wE_1 _ _) rfl (by decide) rfl inn_X10_cut_4 (by decide +kernel) rfl ?_
    refine q_i2l C dX10_cut_146 ?_
    refine q_iload C dX10_cut_147 8 rfl ?_
    refine q_i2l C dX10_cut_149 ?_
    refine q_lmul C dX10_cut_150 ?_
    refine q_ladd C dX10_cut_151 ?_
    refine q_putJ (j := 2) C dX10_cut_152 (wE_40 _ _) (wP_40_2 _ _ _) rfl (by decide) (Nat.le_of_ble_eq_true rfl) tyX2 tyX2_ok nmX2 inn_X10_cut_2 (by decide +kernel) rfl rfl (by decide +kernel) h (fun T_15 h => ?_)
    refine q_aload_n C dX10_cut_155 rfl 0 rfl ?_
    refine q_get (j := 12) C dX10_cut_156 (wE_0 _ _) rfl (by decide) rfl inn_X10_cut_10 (by decide +kernel) rfl ?_
    refine q_dup C dX10_cut_159 rfl ?_
    refine q_get (j := 3) C dX10_cut_160 (wE_40 _ _) rfl (by decide) rfl inn_X10_cut_2 (by decide +kernel) rfl ?_
    refine q_lconst (v := 1) C dX10_cut_163 (by decide) ?_
    refine q_ladd C dX10_cut_164 ?_
    refine q_putJ (j := 3) C dX10_cut_165 (wE_40 _ _) (wP_40_3 _ _ _) rfl (by decide) (Nat.le_of_ble_eq_true rfl) tyX2 tyX2_ok nmX2 inn_X10_cut_2 (by decide +kernel) rfl rfl (by decide +kernel) h (fun T_16 h => ?_)
    refine q_aload_n C dX10_cut_168 rfl 0 rfl ?_
    refine q_get (j := 12) C dX10_cut_169 (wE_0 _ _) rfl (by decide) rfl inn_X10_cut_10 (by decide +kernel) rfl ?_
    refine q_dup C dX10_cut_172 rfl ?_
    refine q_get (j := 4) C dX10_cut_173 (wE_40 _ _) rfl (by decide) rfl inn_X10_cut_2 (by decide +kernel) rfl ?_
    refine q_iload C dX10_cut_176 7 rfl ?_
    refine q_i2l C dX10_cut_178 ?_
    refine q_ladd C dX10_cut_179 ?_
    refine q_putJ (j := 4) C dX10_cut_180 (wE_40 _ _) (wP_40_4 _ _ _) rfl (by decide) (Nat.le_of_ble_eq_true rfl) tyX2 tyX2_ok nmX2 inn_X10_cut_2 (by decide +kernel) rfl rfl (by decide +kernel) h (fun T_17 h => ?_)
    refine q_aload_n C dX10_cut_183 rfl 0 rfl ?_
    refine q_get (j := 8) C dX10_cut_184 (wE_0 _ _) rfl (by decide) rfl inn_X10_cut_10 (by decide +kernel) rfl ?_
    refine q_aload_n C dX10_cut_187 rfl 0 rfl ?_
    refine q_get (j := 0) C dX10_cut_188 (wE_0 _ _) rfl (by decide) rfl inn_X10_cut_10 (by decide +kernel) rfl ?_
    refine q_iload C dX10_cut_191 5 rfl ?_
    obtain ⟨T_18, hc, h⟩ := bv_some h
    refine q_callV (st' := []) C dX10_cut_193 [.ref (ad k.1 1), .int x5_3] [] (mtX1_lay_24_1 l _ n _ _ _ hc) gX10_cut_X1_lay rfl hd_X1_lay (by decide) (by decide) (wE_24 _ _) rfl rfl rfl (Nat.le_of_ble_eq_true rfl) rfl ?_
    clear hc
    refine q_aload_n C dX10_cut_196 rfl 0 rfl ?_
    refine q_get (j := 12) C dX10_cut_197 (wE_0 _ _) rfl (by decide) rfl inn_X10_cut_10 (by decide +kernel) rfl ?_
    refine q_dup C dX10_cut_200 rfl ?_
    refine q_get (j := 5) C dX10_cut_201 (wE_40 _ _) rfl (by decide) rfl inn_X10_cut_2 (by decide +kernel) rfl ?_
    refine q_aload_n C dX10_cut_204 rfl 0 rfl ?_
    refine q_get (j := 8) C dX10_cut_205 (wE_0 _ _) rfl (by decide) rfl inn_X10_cut_10 (by decide +kernel) rfl ?_
    refine q_aload_n C dX10_cut_208 rfl 0 rfl ?_
    refine q_get (j := 6) C dX10_cut_209 (wE_0 _ _) rfl (by decide) rfl inn_X10_cut_10 (by decide +kernel) rfl ?_
    obtain ⟨r_21, T_20, hc, h⟩ := bd_some h
    refine q_callV (st' := [.int r_21, .long (gJ T_18 5), .ref (ad k.1 40)]) C dX10_cut_212 [.ref (ad k.1 20)] [.long (gJ T_18 5), .ref (ad k.1 40)] (mtX1_movesFrom_24_20 l _ n _ _ _ hc) gX10_cut_X1_movesFrom rfl hd_X1_movesFrom (by decide) (by decide) (wE_24 _ _) rfl rfl rfl (Nat.le_of_ble_eq_true rfl) rfl ?_
    clear hc
    refine q_i2l C dX10_cut_215 ?_
    refine q_ladd C dX10_cut_216 ?_
    refine q_putJ (j := 5) C dX10_cut_217 (wE_40 _ _) (wP_40_5 _ _ _) rfl (by decide) (Nat.le_of_ble_eq_true rfl) tyX2 tyX2_ok nmX2 inn_X10_cut_2 (by decide +kernel) rfl rfl (by decide +kernel) h (fun T_22 h => ?_)
    refine q_aload_n C dX10_cut_220 rfl 0 rfl ?_
    refine q_get (j := 6) C dX10_cut_221 (wE_0 _ _) rfl (by decide) rfl inn_X10_cut_10 (by decide +kernel) rfl ?_
    refine q_aload_n C dX10_cut_224 rfl 0 rfl ?_
    refine q_get (j := 8) C dX10_cut_225 (wE_0 _ _) rfl (by decide) rfl inn_X10_cut_10 (by decide +kernel) rfl ?_
    obtain ⟨T_23, hc, h⟩ := bv_some h
    refine q_callV (st' := []) C dX10_cut_228 [.ref (ad k.1 24)] [] (mtX1_copyFrom_20_24 l _ n _ _ hc) gX10_cut_X1_copyFrom rfl hd_X1_copyFrom (by decide) (by decide) (wE_20 _ _) rfl rfl rfl (Nat.le_of_ble_eq_true rfl) rfl ?_
    clear hc
    refine q_aload_n C dX10_cut_231 rfl 0 rfl ?_
    refine q_get (j := 3) C dX10_cut_232 (wE_0 _ _) rfl (by decide) rfl inn_X10_cut_10 (by decide +kernel) rfl ?_
    refine q_iload_n C dX10_cut_235 rfl 1 rfl ?_
    obtain ⟨T_25, hc, h⟩ := bv_some h
    refine q_callV (st' := []) C dX10_cut_236 [.int p0] [] (mtX8_takeRoll_11 l _ n _ _ _ hc) gX10_cut_X8_takeRoll rfl hd_X8_takeRoll (by decide) (by decide) (wE_11 _ _) rfl rfl rfl (Nat.le_of_ble_eq_true rfl) rfl ?_
    clear hc
    refine q_iconst (v := 0) C dX10_cut_239 (by decide) ?_
    exact q_ireturn C dX10_cut_240 h
  · refine q_iload C dX10_cut_14 4 rfl ?_
    exact q_ireturn C dX10_cut_16 h
def fX10_area (n : Nat) (p0 : Int32) (T : TS) : Option (Int64 × TS) := if p0 = 0 then some ((gJ T 0), T) else if p0 = 1 then some ((gJ T 1), T) else if p0 = 2 then some ((gJ T 2), T) else if p0 = 3 then bd (fX2_lost n T) (fun r_2 T_1 => some (r_2, T_1)) else if p0 = 4 then some ((gJ T 3), T) else if p0 = 5 then some ((gJ T 4), T) else if p0 = 6 then some ((gJ T 5), T) else some ((-1 : Int64), T)
set_option maxHeartbeats 4000000 in
set_option maxRecDepth 100000 in
theorem mtX10_area (l : Launch) (X : XT) (n : Nat) (p0 : Int32) (T T' : TS) (r : Int64) (h : fX10_area n p0 T = some (r, T')) : Met l yX10_area wsX10_area (RM 1) (PreX X [.ref (ad X 0), .int p0] T) (QQ X (some (.long r)) T') 0 0 (xA X) := by
  refine q_start (by decide) rfl (Nat.le_of_ble_eq_true rfl) ?_
  intro k hk C
  subst hk
  show GW k T 0 [(0, .ref (ad k.1 0)), (1, .int p0)] []
  unfold fX10_area at h
  refine q_iload_n C dX10_area_0 rfl 1 rfl ?_
  refine q_case (v := 0) h (fun e h => ?_) (fun c0 h => ?_)
  · refine q_tswIn (tgt := 44) C dX10_area_1 e (by decide) (by decide) (by rfl) (by decide) ?_
    refine q_aload_n C dX10_area_44 rfl 0 rfl ?_
    refine q_get (j := 12) C dX10_area_45 (wE_0 _ _) rfl (by decide) rfl inn_X10_area_10 (by decide +kernel) rfl ?_
    refine q_get (j := 0) C dX10_area_48 (wE_40 _ _) rfl (by decide) rfl inn_X10_area_2 (by decide +kernel) rfl ?_
    exact q_lreturn C dX10_area_51 h
  refine q_case (v := 1) h (fun e h => ?_) (fun c1 h => ?_)
  · refine q_tswIn (tgt := 52) C dX10_area_1 e (by decide) (by decide) (by rfl) (by decide) ?_
    refine q_aload_n C dX10_area_52 rfl 0 rfl ?_
    refine q_get (j := 12) C dX10_area_53 (wE_0 _ _) rfl (by decide) rfl inn_X10_area_10 (by decide +kernel) rfl ?_
    refine q_get (j := 1) C dX10_area_56 (wE_40 _ _) rfl (by decide) rfl inn_X10_area_2 (by decide +kernel) rfl ?_
    exact q_lreturn C dX10_area_59 h
  refine q_case (v := 2) h (fun e h => ?_) (fun c2 h => ?_)
  · refine q_tswIn (tgt := 60) C dX10_area_1 e (by decide) (by decide) (by rfl) (by decide) ?_
    refine q_aload_n C dX10_area_60 rfl 0 rfl ?_
    refine q_get (j := 12) C dX10_area_61 (wE_0 _ _) rfl (by decide) rfl inn_X10_area_10 (by decide +kernel) rfl ?_
    refine q_get (j := 2) C dX10_area_64 (wE_40 _ _) rfl (by decide) rfl inn_X10_area_2 (by decide +kernel) rfl ?_
    exact q_lreturn C dX10_area_67 h
  refine q_case (v := 3) h (fun e h => ?_) (fun c3 h => ?_)
  · refine q_tswIn (tgt := 68) C dX10_area_1 e (by decide) (by decide) (by rfl) (by decide) ?_
    refine q_aload_n C dX10_area_68 rfl 0 rfl ?_
    refine q_get (j := 12) C dX10_area_69 (wE_0 _ _) rfl (by decide) rfl inn_X10_area_10 (by decide +kernel) rfl ?_
    obtain ⟨r_2, T_1, hc, h⟩ := bd_some h
    refine q_callV (st' := [.long r_2]) C dX10_area_72 [] [] (mtX2_lost l _ n _ _ _ hc) gX10_area_X2_lost rfl hd_X2_lost (by decide) (by decide) (wE_40 _ _) rfl rfl rfl (Nat.le_of_ble_eq_true rfl) rfl ?_
    clear hc
    exact q_lreturn C dX10_area_75 h
  refine q_case (v := 4) h (fun e h => ?_) (fun c4 h => ?_)
  · refine q_tswIn (tgt := 76) C dX10_area_1 e (by decide) (by decide) (by rfl) (by decide) ?_
    refine q_aload_n C dX10_area_76 rfl 0 rfl ?_
    refine q_get (j := 12) C dX10_area_77 (wE_0 _ _) rfl (by decide) rfl inn_X10_area_10 (by decide +kernel) rfl ?_
    refine q_get (j := 3) C dX10_area_80 (wE_40 _ _) rfl (by decide) rfl inn_X10_area_2 (by decide +kernel) rfl ?_
    exact q_lreturn C dX10_area_83 h
  refine q_case (v := 5) h (fun e h => ?_) (fun c5 h => ?_)
  · refine q_tswIn (tgt := 84) C dX10_area_1 e (by decide) (by decide) (by rfl) (by decide) ?_
    refine q_aload_n C dX10_area_84 rfl 0 rfl ?_
    refine q_get (j := 12) C dX10_area_85 (wE_0 _ _) rfl (by decide) rfl inn_X10_area_10 (by decide +kernel) rfl ?_
    refine q_get (j := 4) C dX10_area_88 (wE_40 _ _) rfl (by decide) rfl inn_X10_area_2 (by decide +kernel) rfl ?_
    exact q_lreturn C dX10_area_91 h
  refine q_case (v := 6) h (fun e h => ?_) (fun c6 h => ?_)
  · refine q_tswIn (tgt := 92) C dX10_area_1 e (by decide) (by decide) (by rfl) (by decide) ?_
    refine q_aload_n C dX10_area_92 rfl 0 rfl ?_
    refine q_get (j := 12) C dX10_area_93 (wE_0 _ _) rfl (by decide) rfl inn_X10_area_10 (by decide +kernel) rfl ?_
    refine q_get (j := 5) C dX10_area_96 (wE_40 _ _) rfl (by decide) rfl inn_X10_area_2 (by decide +kernel) rfl ?_
    exact q_lreturn C dX10_area_99 h
  refine q_tswOut (tgt := 100) C dX10_area_1 (by have w0 := c0; simp only [show ((0 : Int32)).toInt = 0 from rfl] at c0; simp only [show ((1 : Int32)).toInt = 1 from rfl] at c1; simp only [show ((2 : Int32)).toInt = 2 from rfl] at c2; simp only [show ((3 : Int32)).toInt = 3 from rfl] at c3; simp only [show ((4 : Int32)).toInt = 4 from rfl] at c4; simp only [show ((5 : Int32)).toInt = 5 from rfl] at c5; simp only [show ((6 : Int32)).toInt = 6 from rfl] at c6; omega) (by decide) ?_
  refine q_ldc2 (v := -1) C dX10_area_100 (by decide +kernel) ?_
  exact q_lreturn C dX10_area_103 h
