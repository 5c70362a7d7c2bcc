/-! the rows are the code, the sites are the tables' (part 4) -/
theorem kcX10_findTops : q_in 1457 (Cond.code mX10_findTops.2.1 mX10_findTops.2.2.1 mX10_findTops.2.2.2.1 mX10_findTops.2.2.2.2.1) = true := by decide +kernel
theorem kaX10_findTops : rX10_findTops.all (q_rck q_mt 438 mX10_findTops) = true := by decide +kernel
theorem kX10_findTops : q_mok q_mt 438 mX10_findTops := ⟨by decide +kernel, rfl, q_in_mem kcX10_findTops, Nat.le_of_ble_eq_true rfl, kaX10_findTops⟩
theorem kcX10_findTopDive : q_in 1480 (Cond.code mX10_findTopDive.2.1 mX10_findTopDive.2.2.1 mX10_findTopDive.2.2.2.1 mX10_findTopDive.2.2.2.2.1) = true := by decide +kernel
theorem kaX10_findTopDive : rX10_findTopDive.all (q_rck q_mt 438 mX10_findTopDive) = true := by decide +kernel
theorem kX10_findTopDive : q_mok q_mt 438 mX10_findTopDive := ⟨by decide +kernel, rfl, q_in_mem kcX10_findTopDive, Nat.le_of_ble_eq_true rfl, kaX10_findTopDive⟩
theorem kcX10_pointsBy : q_in 1461 (Cond.code mX10_pointsBy.2.1 mX10_pointsBy.2.2.1 mX10_pointsBy.2.2.2.1 mX10_pointsBy.2.2.2.2.1) = true := by decide +kernel
theorem kaX10_pointsBy : rX10_pointsBy.all (q_rck q_mt 438 mX10_pointsBy) = true := by decide +kernel
theorem kX10_pointsBy : q_mok q_mt 438 mX10_pointsBy := ⟨by decide +kernel, rfl, q_in_mem kcX10_pointsBy, Nat.le_of_ble_eq_true rfl, kaX10_pointsBy⟩
theorem kcX11_init : q_in 235 (Cond.code mX11_init.2.1 mX11_init.2.2.1 mX11_init.2.2.2.1 mX11_init.2.2.2.2.1) = true := by decide +kernel
theorem kaX11_init : rX11_init.all (q_rck q_mt 438 mX11_init) = true := by decide +kernel
theorem kX11_init : q_mok q_mt 438 mX11_init := ⟨by decide +kernel, rfl, q_in_mem kcX11_init, Nat.le_of_ble_eq_true rfl, kaX11_init⟩
theorem kcX11_feed : q_in 874 (Cond.code mX11_feed.2.1 mX11_feed.2.2.1 mX11_feed.2.2.2.1 mX11_feed.2.2.2.2.1) = true := by decide +kernel
theorem kaX11_feed : rX11_feed.all (q_rck q_mt 438 mX11_feed) = true := by decide +kernel
theorem kX11_feed : q_mok q_mt 438 mX11_feed := ⟨by decide +kernel, rfl, q_in_mem kcX11_feed, Nat.le_of_ble_eq_true rfl, kaX11_feed⟩
theorem kcX11_end : q_in 882 (Cond.code mX11_end.2.1 mX11_end.2.2.1 mX11_end.2.2.2.1 mX11_end.2.2.2.2.1) = true := by decide +kernel
theorem kaX11_end : rX11_end.all (q_rck q_mt 438 mX11_end) = true := by decide +kernel
theorem kX11_end : q_mok q_mt 438 mX11_end := ⟨by decide +kernel, rfl, q_in_mem kcX11_end, Nat.le_of_ble_eq_true rfl, kaX11_end⟩
theorem kcX11_meet : q_in 886 (Cond.code mX11_meet.2.1 mX11_meet.2.2.1 mX11_meet.2.2.2.1 mX11_meet.2.2.2.2.1) = true := by decide +kernel
theorem kaX11_meet : rX11_meet.all (q_rck q_mt 438 mX11_meet) = true := by decide +kernel
theorem kX11_meet : q_mok q_mt 438 mX11_meet := ⟨by decide +kernel, rfl, q_in_mem kcX11_meet, Nat.le_of_ble_eq_true rfl, kaX11_meet⟩
theorem kcX11_script : q_in 1139 (Cond.code mX11_script.2.1 mX11_script.2.2.1 mX11_script.2.2.2.1 mX11_script.2.2.2.2.1) = true := by decide +kernel
theorem kaX11_script : rX11_script.all (q_rck q_mt 438 mX11_script) = true := by decide +kernel
theorem kX11_script : q_mok q_mt 438 mX11_script := ⟨by decide +kernel, rfl, q_in_mem kcX11_script, Nat.le_of_ble_eq_true rfl, kaX11_script⟩
theorem kcX11_takeFault : q_in 1070 (Cond.code mX11_takeFault.2.1 mX11_takeFault.2.2.1 mX11_takeFault.2.2.2.1 mX11_takeFault.2.2.2.2.1) = true := by decide +kernel
theorem kaX11_takeFault : rX11_takeFault.all (q_rck q_mt 438 mX11_takeFault) = true := by decide +kernel
theorem kX11_takeFault : q_mok q_mt 438 mX11_takeFault := ⟨by decide +kernel, rfl, q_in_mem kcX11_takeFault, Nat.le_of_ble_eq_true rfl, kaX11_takeFault⟩
theorem kcX11_fault : q_in 1313 (Cond.code mX11_fault.2.1 mX11_fault.2.2.1 mX11_fault.2.2.2.1 mX11_fault.2.2.2.2.1) = true := by decide +kernel
theorem kaX11_fault : rX11_fault.all (q_rck q_mt 438 mX11_fault) = true := by decide +kernel
theorem kX11_fault : q_mok q_mt 438 mX11_fault := ⟨by decide +kernel, rfl, q_in_mem kcX11_fault, Nat.le_of_ble_eq_true rfl, kaX11_fault⟩
theorem kcX11_stopped : q_in 1317 (Cond.code mX11_stopped.2.1 mX11_stopped.2.2.1 mX11_stopped.2.2.2.1 mX11_stopped.2.2.2.2.1) = true := by decide +kernel
theorem kaX11_stopped : rX11_stopped.all (q_rck q_mt 438 mX11_stopped) = true := by decide +kernel
theorem kX11_stopped : q_mok q_mt 438 mX11_stopped := ⟨by decide +kernel, rfl, q_in_mem kcX11_stopped, Nat.le_of_ble_eq_true rfl, kaX11_stopped⟩
theorem kcX11_named : q_in 1321 (Cond.code mX11_named.2.1 mX11_named.2.2.1 mX11_named.2.2.2.1 mX11_named.2.2.2.2.1) = true := by decide +kernel
theorem kaX11_named : rX11_named.all (q_rck q_mt 438 mX11_named) = true := by decide +kernel
theorem kX11_named : q_mok q_mt 438 mX11_named := ⟨by decide +kernel, rfl, q_in_mem kcX11_named, Nat.le_of_ble_eq_true rfl, kaX11_named⟩
theorem kcX11_look : q_in 1331 (Cond.code mX11_look.2.1 mX11_look.2.2.1 mX11_look.2.2.2.1 mX11_look.2.2.2.2.1) = true := by decide +kernel
theorem kaX11_look : rX11_look.all (q_rck q_mt 438 mX11_look) = true := by decide +kernel
theorem kX11_look : q_mok q_mt 438 mX11_look := ⟨by decide +kernel, rfl, q_in_mem kcX11_look, Nat.le_of_ble_eq_true rfl, kaX11_look⟩
theorem kcX11_dive : q_in 1336 (Cond.code mX11_dive.2.1 mX11_dive.2.2.1 mX11_dive.2.2.2.1 mX11_dive.2.2.2.2.1) = true := by decide +kernel
theorem kaX11_dive : rX11_dive.all (q_rck q_mt 438 mX11_dive) = true := by decide +kernel
theorem kX11_dive : q_mok q_mt 438 mX11_dive := ⟨by decide +kernel, rfl, q_in_mem kcX11_dive, Nat.le_of_ble_eq_true rfl, kaX11_dive⟩
theorem kcX11_entrant : q_in 1341 (Cond.code mX11_entrant.2.1 mX11_entrant.2.2.1 mX11_entrant.2.2.2.1 mX11_entrant.2.2.2.2.1) = true := by decide +kernel
theorem kaX11_entrant : rX11_entrant.all (q_rck q_mt 438 mX11_entrant) = true := by decide +kernel
theorem kX11_entrant : q_mok q_mt 438 mX11_entrant := ⟨by decide +kernel, rfl, q_in_mem kcX11_entrant, Nat.le_of_ble_eq_true rfl, kaX11_entrant⟩
theorem kcX11_judge : q_in 1349 (Cond.code mX11_judge.2.1 mX11_judge.2.2.1 mX11_judge.2.2.2.1 mX11_judge.2.2.2.2.1) = true := by decide +kernel
theorem kaX11_judge : rX11_judge.all (q_rck q_mt 438 mX11_judge) = true := by decide +kernel
theorem kX11_judge : q_mok q_mt 438 mX11_judge := ⟨by decide +kernel, rfl, q_in_mem kcX11_judge, Nat.le_of_ble_eq_true rfl, kaX11_judge⟩
theorem kcX11_list : q_in 1357 (Cond.code mX11_list.2.1 mX11_list.2.2.1 mX11_list.2.2.2.1 mX11_list.2.2.2.2.1) = true := by decide +kernel
theorem kaX11_list : rX11_list.all (q_rck q_mt 438 mX11_list) = true := by decide +kernel
theorem kX11_list : q_mok q_mt 438 mX11_list := ⟨by decide +kernel, rfl, q_in_mem kcX11_list, Nat.le_of_ble_eq_true rfl, kaX11_list⟩
theorem kcX11_form : q_in 1370 (Cond.code mX11_form.2.1 mX11_form.2.2.1 mX11_form.2.2.2.1 mX11_form.2.2.2.2.1) = true := by decide +kernel
theorem kaX11_form : rX11_form.all (q_rck q_mt 438 mX11_form) = true := by decide +kernel
theorem kX11_form : q_mok q_mt 438 mX11_form := ⟨by decide +kernel, rfl, q_in_mem kcX11_form, Nat.le_of_ble_eq_true rfl, kaX11_form⟩
theorem kcX11_cut : q_in 1374 (Cond.code mX11_cut.2.1 mX11_cut.2.2.1 mX11_cut.2.2.2.1 mX11_cut.2.2.2.2.1) = true := by decide +kernel
theorem kaX11_cut : rX11_cut.all (q_rck q_mt 438 mX11_cut) = true := by decide +kernel
theorem kX11_cut : q_mok q_mt 438 mX11_cut := ⟨by decide +kernel, rfl, q_in_mem kcX11_cut, Nat.le_of_ble_eq_true rfl, kaX11_cut⟩
theorem kcX11_isCell : q_in 1361 (Cond.code mX11_isCell.2.1 mX11_isCell.2.2.1 mX11_isCell.2.2.2.1 mX11_isCell.2.2.2.2.1) = true := by decide +kernel
theorem kaX11_isCell : rX11_isCell.all (q_rck q_mt 438 mX11_isCell) = true := by decide +kernel
theorem kX11_isCell : q_mok q_mt 438 mX11_isCell := ⟨by decide +kernel, rfl, q_in_mem kcX11_isCell, Nat.le_of_ble_eq_true rfl, kaX11_isCell⟩
theorem kcX11_cellOf : q_in 1259 (Cond.code mX11_cellOf.2.1 mX11_cellOf.2.2.1 mX11_cellOf.2.2.2.1 mX11_cellOf.2.2.2.2.1) = true := by decide +kernel
theorem kaX11_cellOf : rX11_cellOf.all (q_rck q_mt 438 mX11_cellOf) = true := by decide +kernel
theorem kX11_cellOf : q_mok q_mt 438 mX11_cellOf := ⟨by decide +kernel, rfl, q_in_mem kcX11_cellOf, Nat.le_of_ble_eq_true rfl, kaX11_cellOf⟩
theorem kcX11_law : q_in 1378 (Cond.code mX11_law.2.1 mX11_law.2.2.1 mX11_law.2.2.2.1 mX11_law.2.2.2.2.1) = true := by decide +kernel
theorem kaX11_law : rX11_law.all (q_rck q_mt 438 mX11_law) = true := by decide +kernel
theorem kX11_law : q_mok q_mt 438 mX11_law := ⟨by decide +kernel, rfl, q_in_mem kcX11_law, Nat.le_of_ble_eq_true rfl, kaX11_law⟩
theorem kcX11_breaks : q_in 1403 (Cond.code mX11_breaks.2.1 mX11_breaks.2.2.1 mX11_breaks.2.2.2.1 mX11_breaks.2.2.2.2.1) = true := by decide +kernel
theorem kaX11_breaks : rX11_breaks.all (q_rck q_mt 438 mX11_breaks) = true := by decide +kernel
theorem kX11_breaks : q_mok q_mt 438 mX11_breaks := ⟨by decide +kernel, rfl, q_in_mem kcX11_breaks, Nat.le_of_ble_eq_true rfl, kaX11_breaks⟩
theorem kcX11_ways : q_in 1416 (Cond.code mX11_ways.2.1 mX11_ways.2.2.1 mX11_ways.2.2.2.1 mX11_ways.2.2.2.2.1) = true := by decide +kernel
theorem kaX11_ways : rX11_ways.all (q_rck q_mt 438 mX11_ways) = true := by decide +kernel
theorem kX11_ways : q_mok q_mt 438 mX11_ways := ⟨by decide +kernel, rfl, q_in_mem kcX11_ways, Nat.le_of_ble_eq_true rfl, kaX11_ways⟩
theorem kcX11_way : q_in 1436 (Cond.code mX11_way.2.1 mX11_way.2.2.1 mX11_way.2.2.2.1 mX11_way.2.2.2.2.1) = true := by decide +kernel
theorem kaX11_way : rX11_way.all (q_rck q_mt 438 mX11_way) = true := by decide +kernel
theorem kX11_way : q_mok q_mt 438 mX11_way := ⟨by decide +kernel, rfl, q_in_mem kcX11_way, Nat.le_of_ble_eq_true rfl, kaX11_way⟩
theorem kcX11_best : q_in 1444 (Cond.code mX11_best.2.1 mX11_best.2.2.1 mX11_best.2.2.2.1 mX11_best.2.2.2.2.1) = true := by decide +kernel
theorem kaX11_best : rX11_best.all (q_rck q_mt 438 mX11_best) = true := by decide +kernel
theorem kX11_best : q_mok q_mt 438 mX11_best := ⟨by decide +kernel, rfl, q_in_mem kcX11_best, Nat.le_of_ble_eq_true rfl, kaX11_best⟩
theorem kcX11_board : q_in 1484 (Cond.code mX11_board.2.1 mX11_board.2.2.1 mX11_board.2.2.2.1 mX11_board.2.2.2.2.1) = true := by decide +kernel
theorem kaX11_board : rX11_board.all (q_rck q_mt 438 mX11_board) = true := by decide +kernel
theorem kX11_board : q_mok q_mt 438 mX11_board := ⟨by decide +kernel, rfl, q_in_mem kcX11_board, Nat.le_of_ble_eq_true rfl, kaX11_board⟩
theorem kcX11_marked : q_in 1491 (Cond.code mX11_marked.2.1 mX11_marked.2.2.1 mX11_marked.2.2.2.1 mX11_marked.2.2.2.2.1) = true := by decide +kernel
theorem kaX11_marked : rX11_marked.all (q_rck q_mt 438 mX11_marked) = true := by decide +kernel
theorem kX11_marked : q_mok q_mt 438 mX11_marked := ⟨by decide +kernel, rfl, q_in_mem kcX11_marked, Nat.le_of_ble_eq_true rfl, kaX11_marked⟩
theorem kcX11_mark : q_in 1495 (Cond.code mX11_mark.2.1 mX11_mark.2.2.1 mX11_mark.2.2.2.1 mX11_mark.2.2.2.2.1) = true := by decide +kernel
theorem kaX11_mark : rX11_mark.all (q_rck q_mt 438 mX11_mark) = true := by decide +kernel
theorem kX11_mark : q_mok q_mt 438 mX11_mark := ⟨by decide +kernel, rfl, q_in_mem kcX11_mark, Nat.le_of_ble_eq_true rfl, kaX11_mark⟩
theorem kcX11_balk : q_in 1510 (Cond.code mX11_balk.2.1 mX11_balk.2.2.1 mX11_balk.2.2.2.1 mX11_balk.2.2.2.2.1) = true := by decide +kernel
theorem kaX11_balk : rX11_balk.all (q_rck q_mt 438 mX11_balk) = true := by decide +kernel
theorem kX11_balk : q_mok q_mt 438 mX11_balk := ⟨by decide +kernel, rfl, q_in_mem kcX11_balk, Nat.le_of_ble_eq_true rfl, kaX11_balk⟩
theorem kcX11_cap : q_in 1515 (Cond.code mX11_cap.2.1 mX11_cap.2.2.1 mX11_cap.2.2.2.1 mX11_cap.2.2.2.2.1) = true := by decide +kernel
theorem kaX11_cap : rX11_cap.all (q_rck q_mt 438 mX11_cap) = true := by decide +kernel
theorem kX11_cap : q_mok q_mt 438 mX11_cap := ⟨by decide +kernel, rfl, q_in_mem kcX11_cap, Nat.le_of_ble_eq_true rfl, kaX11_cap⟩
theorem kcX11_half : q_in 1520 (Cond.code mX11_half.2.1 mX11_half.2.2.1 mX11_half.2.2.2.1 mX11_half.2.2.2.2.1) = true := by decide +kernel
theorem kaX11_half : rX11_half.all (q_rck q_mt 438 mX11_half) = true := by decide +kernel
theorem kX11_half : q_mok q_mt 438 mX11_half := ⟨by decide +kernel, rfl, q_in_mem kcX11_half, Nat.le_of_ble_eq_true rfl, kaX11_half⟩
theorem kcX11_fail : q_in 1525 (Cond.code mX11_fail.2.1 mX11_fail.2.2.1 mX11_fail.2.2.2.1 mX11_fail.2.2.2.2.1) = true := by decide +kernel
theorem kaX11_fail : rX11_fail.all (q_rck q_mt 438 mX11_fail) = true := by decide +kernel
theorem kX11_fail : q_mok q_mt 438 mX11_fail := ⟨by decide +kernel, rfl, q_in_mem kcX11_fail, Nat.le_of_ble_eq_true rfl, kaX11_fail⟩
theorem kcX11_give : q_in 1530 (Cond.code mX11_give.2.1 mX11_give.2.2.1 mX11_give.2.2.2.1 mX11_give.2.2.2.2.1) = true := by decide +kernel
theorem kaX11_give : rX11_give.all (q_rck q_mt 438 mX11_give) = true := by decide +kernel
theorem kX11_give : q_mok q_mt 438 mX11_give := ⟨by decide +kernel, rfl, q_in_mem kcX11_give, Nat.le_of_ble_eq_true rfl, kaX11_give⟩
theorem kcX11_out : q_in 1535 (Cond.code mX11_out.2.1 mX11_out.2.2.1 mX11_out.2.2.2.1 mX11_out.2.2.2.2.1) = true := by decide +kernel
theorem kaX11_out : rX11_out.all (q_rck q_mt 438 mX11_out) = true := by decide +kernel
theorem kX11_out : q_mok q_mt 438 mX11_out := ⟨by decide +kernel, rfl, q_in_mem kcX11_out, Nat.le_of_ble_eq_true rfl, kaX11_out⟩
theorem kcX11_change : q_in 1540 (Cond.code mX11_change.2.1 mX11_change.2.2.1 mX11_change.2.2.2.1 mX11_change.2.2.2.2.1) = true := by decide +kernel
theorem kaX11_change : rX11_change.all (q_rck q_mt 438 mX11_change) = true := by decide +kernel
theorem kX11_change : q_mok q_mt 438 mX11_change := ⟨by decide +kernel, rfl, q_in_mem kcX11_change, Nat.le_of_ble_eq_true rfl, kaX11_change⟩
theorem kcX11_undo : q_in 1558 (Cond.code mX11_undo.2.1 mX11_undo.2.2.1 mX11_undo.2.2.2.1 mX11_undo.2.2.2.2.1) = true := by decide +kernel
theorem kaX11_undo : rX11_undo.all (q_rck q_mt 438 mX11_undo) = true := by decide +kernel
theorem kX11_undo : q_mok q_mt 438 mX11_undo := ⟨by decide +kernel, rfl, q_in_mem kcX11_undo, Nat.le_of_ble_eq_true rfl, kaX11_undo⟩
theorem kcX11_isAward : q_in 1498 (Cond.code mX11_isAward.2.1 mX11_isAward.2.2.1 mX11_isAward.2.2.2.1 mX11_isAward.2.2.2.2.1) = true := by decide +kernel
theorem kaX11_isAward : rX11_isAward.all (q_rck q_mt 438 mX11_isAward) = true := by decide +kernel
theorem kX11_isAward : q_mok q_mt 438 mX11_isAward := ⟨by decide +kernel, rfl, q_in_mem kcX11_isAward, Nat.le_of_ble_eq_true rfl, kaX11_isAward⟩
theorem kcX11_settle : q_in 1506 (Cond.code mX11_settle.2.1 mX11_settle.2.2.1 mX11_settle.2.2.2.1 mX11_settle.2.2.2.2.1) = true := by decide +kernel
theorem kaX11_settle : rX11_settle.all (q_rck q_mt 438 mX11_settle) = true := by decide +kernel
theorem kX11_settle : q_mok q_mt 438 mX11_settle := ⟨by decide +kernel, rfl, q_in_mem kcX11_settle, Nat.le_of_ble_eq_true rfl, kaX11_settle⟩
theorem kcX11_points : q_in 1567 (Cond.code mX11_points.2.1 mX11_points.2.2.1 mX11_points.2.2.2.1 mX11_points.2.2.2.2.1) = true := by decide +kernel
theorem kaX11_points : rX11_points.all (q_rck q_mt 438 mX11_points) = true := by decide +kernel
theorem kX11_points : q_mok q_mt 438 mX11_points := ⟨by decide +kernel, rfl, q_in_mem kcX11_points, Nat.le_of_ble_eq_true rfl, kaX11_points⟩
