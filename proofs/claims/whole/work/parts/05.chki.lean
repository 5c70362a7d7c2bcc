/-! the rows are the code, the sites are the tables' (part 8) -/
theorem kcX12_list : q_in 2455 (Cond.code mX12_list.2.1 mX12_list.2.2.1 mX12_list.2.2.2.1 mX12_list.2.2.2.2.1) = true := by decide +kernel
theorem kaX12_list : rX12_list.all (q_rck q_mt 438 mX12_list) = true := by decide +kernel
theorem kX12_list : q_mok q_mt 438 mX12_list := ⟨by decide +kernel, rfl, q_in_mem kcX12_list, Nat.le_of_ble_eq_true rfl, kaX12_list⟩
theorem kcX12_form : q_in 2467 (Cond.code mX12_form.2.1 mX12_form.2.2.1 mX12_form.2.2.2.1 mX12_form.2.2.2.2.1) = true := by decide +kernel
theorem kaX12_form : rX12_form.all (q_rck q_mt 438 mX12_form) = true := by decide +kernel
theorem kX12_form : q_mok q_mt 438 mX12_form := ⟨by decide +kernel, rfl, q_in_mem kcX12_form, Nat.le_of_ble_eq_true rfl, kaX12_form⟩
theorem kcX12_cut : q_in 2471 (Cond.code mX12_cut.2.1 mX12_cut.2.2.1 mX12_cut.2.2.2.1 mX12_cut.2.2.2.2.1) = true := by decide +kernel
theorem kaX12_cut : rX12_cut.all (q_rck q_mt 438 mX12_cut) = true := by decide +kernel
theorem kX12_cut : q_mok q_mt 438 mX12_cut := ⟨by decide +kernel, rfl, q_in_mem kcX12_cut, Nat.le_of_ble_eq_true rfl, kaX12_cut⟩
theorem kcX12_partOf : q_in 2491 (Cond.code mX12_partOf.2.1 mX12_partOf.2.2.1 mX12_partOf.2.2.2.1 mX12_partOf.2.2.2.2.1) = true := by decide +kernel
theorem kaX12_partOf : rX12_partOf.all (q_rck q_mt 438 mX12_partOf) = true := by decide +kernel
theorem kX12_partOf : q_mok q_mt 438 mX12_partOf := ⟨by decide +kernel, rfl, q_in_mem kcX12_partOf, Nat.le_of_ble_eq_true rfl, kaX12_partOf⟩
theorem kcX12_bits : q_in 2502 (Cond.code mX12_bits.2.1 mX12_bits.2.2.1 mX12_bits.2.2.2.1 mX12_bits.2.2.2.2.1) = true := by decide +kernel
theorem kaX12_bits : rX12_bits.all (q_rck q_mt 438 mX12_bits) = true := by decide +kernel
theorem kX12_bits : q_mok q_mt 438 mX12_bits := ⟨by decide +kernel, rfl, q_in_mem kcX12_bits, Nat.le_of_ble_eq_true rfl, kaX12_bits⟩
theorem kcX12_truth : q_in 2508 (Cond.code mX12_truth.2.1 mX12_truth.2.2.1 mX12_truth.2.2.2.1 mX12_truth.2.2.2.2.1) = true := by decide +kernel
theorem kaX12_truth : rX12_truth.all (q_rck q_mt 438 mX12_truth) = true := by decide +kernel
theorem kX12_truth : q_mok q_mt 438 mX12_truth := ⟨by decide +kernel, rfl, q_in_mem kcX12_truth, Nat.le_of_ble_eq_true rfl, kaX12_truth⟩
theorem kcX12_joined : q_in 2505 (Cond.code mX12_joined.2.1 mX12_joined.2.2.1 mX12_joined.2.2.2.1 mX12_joined.2.2.2.2.1) = true := by decide +kernel
theorem kaX12_joined : rX12_joined.all (q_rck q_mt 438 mX12_joined) = true := by decide +kernel
theorem kX12_joined : q_mok q_mt 438 mX12_joined := ⟨by decide +kernel, rfl, q_in_mem kcX12_joined, Nat.le_of_ble_eq_true rfl, kaX12_joined⟩
theorem kcX12_isSo : q_in 2487 (Cond.code mX12_isSo.2.1 mX12_isSo.2.2.1 mX12_isSo.2.2.2.1 mX12_isSo.2.2.2.2.1) = true := by decide +kernel
theorem kaX12_isSo : rX12_isSo.all (q_rck q_mt 438 mX12_isSo) = true := by decide +kernel
theorem kX12_isSo : q_mok q_mt 438 mX12_isSo := ⟨by decide +kernel, rfl, q_in_mem kcX12_isSo, Nat.le_of_ble_eq_true rfl, kaX12_isSo⟩
theorem kcX12_brokenAt : q_in 2520 (Cond.code mX12_brokenAt.2.1 mX12_brokenAt.2.2.1 mX12_brokenAt.2.2.2.1 mX12_brokenAt.2.2.2.2.1) = true := by decide +kernel
theorem kaX12_brokenAt : rX12_brokenAt.all (q_rck q_mt 438 mX12_brokenAt) = true := by decide +kernel
theorem kX12_brokenAt : q_mok q_mt 438 mX12_brokenAt := ⟨by decide +kernel, rfl, q_in_mem kcX12_brokenAt, Nat.le_of_ble_eq_true rfl, kaX12_brokenAt⟩
theorem kcX12_laysRow : q_in 2479 (Cond.code mX12_laysRow.2.1 mX12_laysRow.2.2.1 mX12_laysRow.2.2.2.1 mX12_laysRow.2.2.2.2.1) = true := by decide +kernel
theorem kaX12_laysRow : rX12_laysRow.all (q_rck q_mt 438 mX12_laysRow) = true := by decide +kernel
theorem kX12_laysRow : q_mok q_mt 438 mX12_laysRow := ⟨by decide +kernel, rfl, q_in_mem kcX12_laysRow, Nat.le_of_ble_eq_true rfl, kaX12_laysRow⟩
theorem kcX12_pairOf : q_in 2483 (Cond.code mX12_pairOf.2.1 mX12_pairOf.2.2.1 mX12_pairOf.2.2.2.1 mX12_pairOf.2.2.2.2.1) = true := by decide +kernel
theorem kaX12_pairOf : rX12_pairOf.all (q_rck q_mt 438 mX12_pairOf) = true := by decide +kernel
theorem kX12_pairOf : q_mok q_mt 438 mX12_pairOf := ⟨by decide +kernel, rfl, q_in_mem kcX12_pairOf, Nat.le_of_ble_eq_true rfl, kaX12_pairOf⟩
theorem kcX12_firstBroken : q_in 2516 (Cond.code mX12_firstBroken.2.1 mX12_firstBroken.2.2.1 mX12_firstBroken.2.2.2.1 mX12_firstBroken.2.2.2.2.1) = true := by decide +kernel
theorem kaX12_firstBroken : rX12_firstBroken.all (q_rck q_mt 438 mX12_firstBroken) = true := by decide +kernel
theorem kX12_firstBroken : q_mok q_mt 438 mX12_firstBroken := ⟨by decide +kernel, rfl, q_in_mem kcX12_firstBroken, Nat.le_of_ble_eq_true rfl, kaX12_firstBroken⟩
theorem kcX12_law : q_in 2475 (Cond.code mX12_law.2.1 mX12_law.2.2.1 mX12_law.2.2.2.1 mX12_law.2.2.2.2.1) = true := by decide +kernel
theorem kaX12_law : rX12_law.all (q_rck q_mt 438 mX12_law) = true := by decide +kernel
theorem kX12_law : q_mok q_mt 438 mX12_law := ⟨by decide +kernel, rfl, q_in_mem kcX12_law, Nat.le_of_ble_eq_true rfl, kaX12_law⟩
theorem kcX12_breaks : q_in 2512 (Cond.code mX12_breaks.2.1 mX12_breaks.2.2.1 mX12_breaks.2.2.2.1 mX12_breaks.2.2.2.2.1) = true := by decide +kernel
theorem kaX12_breaks : rX12_breaks.all (q_rck q_mt 438 mX12_breaks) = true := by decide +kernel
theorem kX12_breaks : q_mok q_mt 438 mX12_breaks := ⟨by decide +kernel, rfl, q_in_mem kcX12_breaks, Nat.le_of_ble_eq_true rfl, kaX12_breaks⟩
theorem kcX12_isAhead : q_in 2547 (Cond.code mX12_isAhead.2.1 mX12_isAhead.2.2.1 mX12_isAhead.2.2.2.1 mX12_isAhead.2.2.2.2.1) = true := by decide +kernel
theorem kaX12_isAhead : rX12_isAhead.all (q_rck q_mt 438 mX12_isAhead) = true := by decide +kernel
theorem kX12_isAhead : q_mok q_mt 438 mX12_isAhead := ⟨by decide +kernel, rfl, q_in_mem kcX12_isAhead, Nat.le_of_ble_eq_true rfl, kaX12_isAhead⟩
theorem kcX12_nextAt : q_in 2540 (Cond.code mX12_nextAt.2.1 mX12_nextAt.2.2.1 mX12_nextAt.2.2.2.1 mX12_nextAt.2.2.2.2.1) = true := by decide +kernel
theorem kaX12_nextAt : rX12_nextAt.all (q_rck q_mt 438 mX12_nextAt) = true := by decide +kernel
theorem kX12_nextAt : q_mok q_mt 438 mX12_nextAt := ⟨by decide +kernel, rfl, q_in_mem kcX12_nextAt, Nat.le_of_ble_eq_true rfl, kaX12_nextAt⟩
theorem kcX12_goesToNext : q_in 2536 (Cond.code mX12_goesToNext.2.1 mX12_goesToNext.2.2.1 mX12_goesToNext.2.2.2.1 mX12_goesToNext.2.2.2.2.1) = true := by decide +kernel
theorem kaX12_goesToNext : rX12_goesToNext.all (q_rck q_mt 438 mX12_goesToNext) = true := by decide +kernel
theorem kX12_goesToNext : q_mok q_mt 438 mX12_goesToNext := ⟨by decide +kernel, rfl, q_in_mem kcX12_goesToNext, Nat.le_of_ble_eq_true rfl, kaX12_goesToNext⟩
theorem kcX12_goesToFirst : q_in 2532 (Cond.code mX12_goesToFirst.2.1 mX12_goesToFirst.2.2.1 mX12_goesToFirst.2.2.2.1 mX12_goesToFirst.2.2.2.2.1) = true := by decide +kernel
theorem kaX12_goesToFirst : rX12_goesToFirst.all (q_rck q_mt 438 mX12_goesToFirst) = true := by decide +kernel
theorem kX12_goesToFirst : q_mok q_mt 438 mX12_goesToFirst := ⟨by decide +kernel, rfl, q_in_mem kcX12_goesToFirst, Nat.le_of_ble_eq_true rfl, kaX12_goesToFirst⟩
theorem kcX12_anyMay : q_in 2528 (Cond.code mX12_anyMay.2.1 mX12_anyMay.2.2.1 mX12_anyMay.2.2.2.1 mX12_anyMay.2.2.2.2.1) = true := by decide +kernel
theorem kaX12_anyMay : rX12_anyMay.all (q_rck q_mt 438 mX12_anyMay) = true := by decide +kernel
theorem kX12_anyMay : q_mok q_mt 438 mX12_anyMay := ⟨by decide +kernel, rfl, q_in_mem kcX12_anyMay, Nat.le_of_ble_eq_true rfl, kaX12_anyMay⟩
theorem kcX12_ways : q_in 2524 (Cond.code mX12_ways.2.1 mX12_ways.2.2.1 mX12_ways.2.2.2.1 mX12_ways.2.2.2.2.1) = true := by decide +kernel
theorem kaX12_ways : rX12_ways.all (q_rck q_mt 438 mX12_ways) = true := by decide +kernel
theorem kX12_ways : q_mok q_mt 438 mX12_ways := ⟨by decide +kernel, rfl, q_in_mem kcX12_ways, Nat.le_of_ble_eq_true rfl, kaX12_ways⟩
theorem kcX12_way : q_in 2551 (Cond.code mX12_way.2.1 mX12_way.2.2.1 mX12_way.2.2.2.1 mX12_way.2.2.2.2.1) = true := by decide +kernel
theorem kaX12_way : rX12_way.all (q_rck q_mt 438 mX12_way) = true := by decide +kernel
theorem kX12_way : q_mok q_mt 438 mX12_way := ⟨by decide +kernel, rfl, q_in_mem kcX12_way, Nat.le_of_ble_eq_true rfl, kaX12_way⟩
theorem kcX12_formAward : q_in 2567 (Cond.code mX12_formAward.2.1 mX12_formAward.2.2.1 mX12_formAward.2.2.2.1 mX12_formAward.2.2.2.2.1) = true := by decide +kernel
theorem kaX12_formAward : rX12_formAward.all (q_rck q_mt 438 mX12_formAward) = true := by decide +kernel
theorem kX12_formAward : q_mok q_mt 438 mX12_formAward := ⟨by decide +kernel, rfl, q_in_mem kcX12_formAward, Nat.le_of_ble_eq_true rfl, kaX12_formAward⟩
theorem kcX12_alikePoints : q_in 2573 (Cond.code mX12_alikePoints.2.1 mX12_alikePoints.2.2.1 mX12_alikePoints.2.2.2.1 mX12_alikePoints.2.2.2.2.1) = true := by decide +kernel
theorem kaX12_alikePoints : rX12_alikePoints.all (q_rck q_mt 438 mX12_alikePoints) = true := by decide +kernel
theorem kX12_alikePoints : q_mok q_mt 438 mX12_alikePoints := ⟨by decide +kernel, rfl, q_in_mem kcX12_alikePoints, Nat.le_of_ble_eq_true rfl, kaX12_alikePoints⟩
theorem kcX12_formPoints : q_in 2563 (Cond.code mX12_formPoints.2.1 mX12_formPoints.2.2.1 mX12_formPoints.2.2.2.1 mX12_formPoints.2.2.2.2.1) = true := by decide +kernel
theorem kaX12_formPoints : rX12_formPoints.all (q_rck q_mt 438 mX12_formPoints) = true := by decide +kernel
theorem kX12_formPoints : q_mok q_mt 438 mX12_formPoints := ⟨by decide +kernel, rfl, q_in_mem kcX12_formPoints, Nat.le_of_ble_eq_true rfl, kaX12_formPoints⟩
theorem kcX12_bestPoints : q_in 2559 (Cond.code mX12_bestPoints.2.1 mX12_bestPoints.2.2.1 mX12_bestPoints.2.2.2.1 mX12_bestPoints.2.2.2.2.1) = true := by decide +kernel
theorem kaX12_bestPoints : rX12_bestPoints.all (q_rck q_mt 438 mX12_bestPoints) = true := by decide +kernel
theorem kX12_bestPoints : q_mok q_mt 438 mX12_bestPoints := ⟨by decide +kernel, rfl, q_in_mem kcX12_bestPoints, Nat.le_of_ble_eq_true rfl, kaX12_bestPoints⟩
theorem kcX12_best : q_in 2555 (Cond.code mX12_best.2.1 mX12_best.2.2.1 mX12_best.2.2.2.1 mX12_best.2.2.2.2.1) = true := by decide +kernel
theorem kaX12_best : rX12_best.all (q_rck q_mt 438 mX12_best) = true := by decide +kernel
theorem kX12_best : q_mok q_mt 438 mX12_best := ⟨by decide +kernel, rfl, q_in_mem kcX12_best, Nat.le_of_ble_eq_true rfl, kaX12_best⟩
theorem kcX12_laysDive : q_in 2693 (Cond.code mX12_laysDive.2.1 mX12_laysDive.2.2.1 mX12_laysDive.2.2.2.1 mX12_laysDive.2.2.2.2.1) = true := by decide +kernel
theorem kaX12_laysDive : rX12_laysDive.all (q_rck q_mt 438 mX12_laysDive) = true := by decide +kernel
theorem kX12_laysDive : q_mok q_mt 438 mX12_laysDive := ⟨by decide +kernel, rfl, q_in_mem kcX12_laysDive, Nat.le_of_ble_eq_true rfl, kaX12_laysDive⟩
theorem kcX12_countOf : q_in 2723 (Cond.code mX12_countOf.2.1 mX12_countOf.2.2.1 mX12_countOf.2.2.2.1 mX12_countOf.2.2.2.2.1) = true := by decide +kernel
theorem kaX12_countOf : rX12_countOf.all (q_rck q_mt 438 mX12_countOf) = true := by decide +kernel
theorem kX12_countOf : q_mok q_mt 438 mX12_countOf := ⟨by decide +kernel, rfl, q_in_mem kcX12_countOf, Nat.le_of_ble_eq_true rfl, kaX12_countOf⟩
theorem kcX12_isOfPanel : q_in 2701 (Cond.code mX12_isOfPanel.2.1 mX12_isOfPanel.2.2.1 mX12_isOfPanel.2.2.2.1 mX12_isOfPanel.2.2.2.2.1) = true := by decide +kernel
theorem kaX12_isOfPanel : rX12_isOfPanel.all (q_rck q_mt 438 mX12_isOfPanel) = true := by decide +kernel
theorem kX12_isOfPanel : q_mok q_mt 438 mX12_isOfPanel := ⟨by decide +kernel, rfl, q_in_mem kcX12_isOfPanel, Nat.le_of_ble_eq_true rfl, kaX12_isOfPanel⟩
theorem kcX12_panelOf : q_in 2709 (Cond.code mX12_panelOf.2.1 mX12_panelOf.2.2.1 mX12_panelOf.2.2.2.1 mX12_panelOf.2.2.2.2.1) = true := by decide +kernel
theorem kaX12_panelOf : rX12_panelOf.all (q_rck q_mt 438 mX12_panelOf) = true := by decide +kernel
theorem kX12_panelOf : q_mok q_mt 438 mX12_panelOf := ⟨by decide +kernel, rfl, q_in_mem kcX12_panelOf, Nat.le_of_ble_eq_true rfl, kaX12_panelOf⟩
theorem kcX12_aheadOf : q_in 2719 (Cond.code mX12_aheadOf.2.1 mX12_aheadOf.2.2.1 mX12_aheadOf.2.2.2.1 mX12_aheadOf.2.2.2.2.1) = true := by decide +kernel
theorem kaX12_aheadOf : rX12_aheadOf.all (q_rck q_mt 438 mX12_aheadOf) = true := by decide +kernel
theorem kX12_aheadOf : q_mok q_mt 438 mX12_aheadOf := ⟨by decide +kernel, rfl, q_in_mem kcX12_aheadOf, Nat.le_of_ble_eq_true rfl, kaX12_aheadOf⟩
theorem kcX12_droppedEachWay : q_in 2712 (Cond.code mX12_droppedEachWay.2.1 mX12_droppedEachWay.2.2.1 mX12_droppedEachWay.2.2.2.1 mX12_droppedEachWay.2.2.2.2.1) = true := by decide +kernel
theorem kaX12_droppedEachWay : rX12_droppedEachWay.all (q_rck q_mt 438 mX12_droppedEachWay) = true := by decide +kernel
theorem kX12_droppedEachWay : q_mok q_mt 438 mX12_droppedEachWay := ⟨by decide +kernel, rfl, q_in_mem kcX12_droppedEachWay, Nat.le_of_ble_eq_true rfl, kaX12_droppedEachWay⟩
theorem kcX12_fateOf : q_in 2705 (Cond.code mX12_fateOf.2.1 mX12_fateOf.2.2.1 mX12_fateOf.2.2.2.1 mX12_fateOf.2.2.2.2.1) = true := by decide +kernel
theorem kaX12_fateOf : rX12_fateOf.all (q_rck q_mt 438 mX12_fateOf) = true := by decide +kernel
theorem kX12_fateOf : q_mok q_mt 438 mX12_fateOf := ⟨by decide +kernel, rfl, q_in_mem kcX12_fateOf, Nat.le_of_ble_eq_true rfl, kaX12_fateOf⟩
theorem kcX12_laidPoints : q_in 2697 (Cond.code mX12_laidPoints.2.1 mX12_laidPoints.2.2.1 mX12_laidPoints.2.2.2.1 mX12_laidPoints.2.2.2.2.1) = true := by decide +kernel
theorem kaX12_laidPoints : rX12_laidPoints.all (q_rck q_mt 438 mX12_laidPoints) = true := by decide +kernel
theorem kX12_laidPoints : q_mok q_mt 438 mX12_laidPoints := ⟨by decide +kernel, rfl, q_in_mem kcX12_laidPoints, Nat.le_of_ble_eq_true rfl, kaX12_laidPoints⟩
theorem kcX12_pointsBy : q_in 2689 (Cond.code mX12_pointsBy.2.1 mX12_pointsBy.2.2.1 mX12_pointsBy.2.2.2.1 mX12_pointsBy.2.2.2.2.1) = true := by decide +kernel
theorem kaX12_pointsBy : rX12_pointsBy.all (q_rck q_mt 438 mX12_pointsBy) = true := by decide +kernel
theorem kX12_pointsBy : q_mok q_mt 438 mX12_pointsBy := ⟨by decide +kernel, rfl, q_in_mem kcX12_pointsBy, Nat.le_of_ble_eq_true rfl, kaX12_pointsBy⟩
theorem kcX12_pointsOf : q_in 2685 (Cond.code mX12_pointsOf.2.1 mX12_pointsOf.2.2.1 mX12_pointsOf.2.2.2.1 mX12_pointsOf.2.2.2.2.1) = true := by decide +kernel
theorem kaX12_pointsOf : rX12_pointsOf.all (q_rck q_mt 438 mX12_pointsOf) = true := by decide +kernel
theorem kX12_pointsOf : q_mok q_mt 438 mX12_pointsOf := ⟨by decide +kernel, rfl, q_in_mem kcX12_pointsOf, Nat.le_of_ble_eq_true rfl, kaX12_pointsOf⟩
theorem kcX12_totalBy : q_in 2747 (Cond.code mX12_totalBy.2.1 mX12_totalBy.2.2.1 mX12_totalBy.2.2.2.1 mX12_totalBy.2.2.2.2.1) = true := by decide +kernel
theorem kaX12_totalBy : rX12_totalBy.all (q_rck q_mt 438 mX12_totalBy) = true := by decide +kernel
theorem kX12_totalBy : q_mok q_mt 438 mX12_totalBy := ⟨by decide +kernel, rfl, q_in_mem kcX12_totalBy, Nat.le_of_ble_eq_true rfl, kaX12_totalBy⟩
theorem kcX12_totalOf : q_in 2743 (Cond.code mX12_totalOf.2.1 mX12_totalOf.2.2.1 mX12_totalOf.2.2.2.1 mX12_totalOf.2.2.2.2.1) = true := by decide +kernel
theorem kaX12_totalOf : rX12_totalOf.all (q_rck q_mt 438 mX12_totalOf) = true := by decide +kernel
theorem kX12_totalOf : q_mok q_mt 438 mX12_totalOf := ⟨by decide +kernel, rfl, q_in_mem kcX12_totalOf, Nat.le_of_ble_eq_true rfl, kaX12_totalOf⟩
theorem kcX12_boardOf : q_in 2581 (Cond.code mX12_boardOf.2.1 mX12_boardOf.2.2.1 mX12_boardOf.2.2.2.1 mX12_boardOf.2.2.2.2.1) = true := by decide +kernel
theorem kaX12_boardOf : rX12_boardOf.all (q_rck q_mt 438 mX12_boardOf) = true := by decide +kernel
theorem kX12_boardOf : q_mok q_mt 438 mX12_boardOf := ⟨by decide +kernel, rfl, q_in_mem kcX12_boardOf, Nat.le_of_ble_eq_true rfl, kaX12_boardOf⟩
theorem kcX12_roundNow : q_in 2585 (Cond.code mX12_roundNow.2.1 mX12_roundNow.2.2.1 mX12_roundNow.2.2.2.1 mX12_roundNow.2.2.2.2.1) = true := by decide +kernel
theorem kaX12_roundNow : rX12_roundNow.all (q_rck q_mt 438 mX12_roundNow) = true := by decide +kernel
theorem kX12_roundNow : q_mok q_mt 438 mX12_roundNow := ⟨by decide +kernel, rfl, q_in_mem kcX12_roundNow, Nat.le_of_ble_eq_true rfl, kaX12_roundNow⟩
