/-! the rows are the code, the sites are the tables' (part 9) -/
theorem kcX12_markedMany : q_in 2589 (Cond.code mX12_markedMany.2.1 mX12_markedMany.2.2.1 mX12_markedMany.2.2.2.1 mX12_markedMany.2.2.2.2.1) = true := by decide +kernel
theorem kaX12_markedMany : rX12_markedMany.all (q_rck q_mt 438 mX12_markedMany) = true := by decide +kernel
theorem kX12_markedMany : q_mok q_mt 438 mX12_markedMany := ⟨by decide +kernel, rfl, q_in_mem kcX12_markedMany, Nat.le_of_ble_eq_true rfl, kaX12_markedMany⟩
theorem kcX12_board : q_in 2577 (Cond.code mX12_board.2.1 mX12_board.2.2.1 mX12_board.2.2.2.1 mX12_board.2.2.2.2.1) = true := by decide +kernel
theorem kaX12_board : rX12_board.all (q_rck q_mt 438 mX12_board) = true := by decide +kernel
theorem kX12_board : q_mok q_mt 438 mX12_board := ⟨by decide +kernel, rfl, q_in_mem kcX12_board, Nat.le_of_ble_eq_true rfl, kaX12_board⟩
theorem kcX12_marked : q_in 2609 (Cond.code mX12_marked.2.1 mX12_marked.2.2.1 mX12_marked.2.2.2.1 mX12_marked.2.2.2.2.1) = true := by decide +kernel
theorem kaX12_marked : rX12_marked.all (q_rck q_mt 438 mX12_marked) = true := by decide +kernel
theorem kX12_marked : q_mok q_mt 438 mX12_marked := ⟨by decide +kernel, rfl, q_in_mem kcX12_marked, Nat.le_of_ble_eq_true rfl, kaX12_marked⟩
theorem kcX12_isOpen : q_in 2625 (Cond.code mX12_isOpen.2.1 mX12_isOpen.2.2.1 mX12_isOpen.2.2.2.1 mX12_isOpen.2.2.2.2.1) = true := by decide +kernel
theorem kaX12_isOpen : rX12_isOpen.all (q_rck q_mt 438 mX12_isOpen) = true := by decide +kernel
theorem kX12_isOpen : q_mok q_mt 438 mX12_isOpen := ⟨by decide +kernel, rfl, q_in_mem kcX12_isOpen, Nat.le_of_ble_eq_true rfl, kaX12_isOpen⟩
theorem kcX12_markBy : q_in 2621 (Cond.code mX12_markBy.2.1 mX12_markBy.2.2.1 mX12_markBy.2.2.2.1 mX12_markBy.2.2.2.2.1) = true := by decide +kernel
theorem kaX12_markBy : rX12_markBy.all (q_rck q_mt 438 mX12_markBy) = true := by decide +kernel
theorem kX12_markBy : q_mok q_mt 438 mX12_markBy := ⟨by decide +kernel, rfl, q_in_mem kcX12_markBy, Nat.le_of_ble_eq_true rfl, kaX12_markBy⟩
theorem kcX12_fails : q_in 2649 (Cond.code mX12_fails.2.1 mX12_fails.2.2.1 mX12_fails.2.2.2.1 mX12_fails.2.2.2.2.1) = true := by decide +kernel
theorem kaX12_fails : rX12_fails.all (q_rck q_mt 438 mX12_fails) = true := by decide +kernel
theorem kX12_fails : q_mok q_mt 438 mX12_fails := ⟨by decide +kernel, rfl, q_in_mem kcX12_fails, Nat.le_of_ble_eq_true rfl, kaX12_fails⟩
theorem kcX12_balkBy : q_in 2645 (Cond.code mX12_balkBy.2.1 mX12_balkBy.2.2.1 mX12_balkBy.2.2.2.1 mX12_balkBy.2.2.2.2.1) = true := by decide +kernel
theorem kaX12_balkBy : rX12_balkBy.all (q_rck q_mt 438 mX12_balkBy) = true := by decide +kernel
theorem kX12_balkBy : q_mok q_mt 438 mX12_balkBy := ⟨by decide +kernel, rfl, q_in_mem kcX12_balkBy, Nat.le_of_ble_eq_true rfl, kaX12_balkBy⟩
theorem kcX12_capBy : q_in 2657 (Cond.code mX12_capBy.2.1 mX12_capBy.2.2.1 mX12_capBy.2.2.2.1 mX12_capBy.2.2.2.2.1) = true := by decide +kernel
theorem kaX12_capBy : rX12_capBy.all (q_rck q_mt 438 mX12_capBy) = true := by decide +kernel
theorem kX12_capBy : q_mok q_mt 438 mX12_capBy := ⟨by decide +kernel, rfl, q_in_mem kcX12_capBy, Nat.le_of_ble_eq_true rfl, kaX12_capBy⟩
theorem kcX12_halfBy : q_in 2665 (Cond.code mX12_halfBy.2.1 mX12_halfBy.2.2.1 mX12_halfBy.2.2.2.1 mX12_halfBy.2.2.2.2.1) = true := by decide +kernel
theorem kaX12_halfBy : rX12_halfBy.all (q_rck q_mt 438 mX12_halfBy) = true := by decide +kernel
theorem kX12_halfBy : q_mok q_mt 438 mX12_halfBy := ⟨by decide +kernel, rfl, q_in_mem kcX12_halfBy, Nat.le_of_ble_eq_true rfl, kaX12_halfBy⟩
theorem kcX12_failBy : q_in 2673 (Cond.code mX12_failBy.2.1 mX12_failBy.2.2.1 mX12_failBy.2.2.2.1 mX12_failBy.2.2.2.2.1) = true := by decide +kernel
theorem kaX12_failBy : rX12_failBy.all (q_rck q_mt 438 mX12_failBy) = true := by decide +kernel
theorem kX12_failBy : q_mok q_mt 438 mX12_failBy := ⟨by decide +kernel, rfl, q_in_mem kcX12_failBy, Nat.le_of_ble_eq_true rfl, kaX12_failBy⟩
theorem kcX12_giveBy : q_in 2681 (Cond.code mX12_giveBy.2.1 mX12_giveBy.2.2.1 mX12_giveBy.2.2.2.1 mX12_giveBy.2.2.2.2.1) = true := by decide +kernel
theorem kaX12_giveBy : rX12_giveBy.all (q_rck q_mt 438 mX12_giveBy) = true := by decide +kernel
theorem kX12_giveBy : q_mok q_mt 438 mX12_giveBy := ⟨by decide +kernel, rfl, q_in_mem kcX12_giveBy, Nat.le_of_ble_eq_true rfl, kaX12_giveBy⟩
theorem kcX12_outBy : q_in 2759 (Cond.code mX12_outBy.2.1 mX12_outBy.2.2.1 mX12_outBy.2.2.2.1 mX12_outBy.2.2.2.2.1) = true := by decide +kernel
theorem kaX12_outBy : rX12_outBy.all (q_rck q_mt 438 mX12_outBy) = true := by decide +kernel
theorem kX12_outBy : q_mok q_mt 438 mX12_outBy := ⟨by decide +kernel, rfl, q_in_mem kcX12_outBy, Nat.le_of_ble_eq_true rfl, kaX12_outBy⟩
theorem kcX12_goesOn : q_in 2727 (Cond.code mX12_goesOn.2.1 mX12_goesOn.2.2.1 mX12_goesOn.2.2.2.1 mX12_goesOn.2.2.2.2.1) = true := by decide +kernel
theorem kaX12_goesOn : rX12_goesOn.all (q_rck q_mt 438 mX12_goesOn) = true := by decide +kernel
theorem kX12_goesOn : q_mok q_mt 438 mX12_goesOn := ⟨by decide +kernel, rfl, q_in_mem kcX12_goesOn, Nat.le_of_ble_eq_true rfl, kaX12_goesOn⟩
theorem kcX12_cutBehind : q_in 2735 (Cond.code mX12_cutBehind.2.1 mX12_cutBehind.2.2.1 mX12_cutBehind.2.2.2.1 mX12_cutBehind.2.2.2.2.1) = true := by decide +kernel
theorem kaX12_cutBehind : rX12_cutBehind.all (q_rck q_mt 438 mX12_cutBehind) = true := by decide +kernel
theorem kX12_cutBehind : q_mok q_mt 438 mX12_cutBehind := ⟨by decide +kernel, rfl, q_in_mem kcX12_cutBehind, Nat.le_of_ble_eq_true rfl, kaX12_cutBehind⟩
theorem kcX12_endsRound : q_in 2731 (Cond.code mX12_endsRound.2.1 mX12_endsRound.2.2.1 mX12_endsRound.2.2.2.1 mX12_endsRound.2.2.2.2.1) = true := by decide +kernel
theorem kaX12_endsRound : rX12_endsRound.all (q_rck q_mt 438 mX12_endsRound) = true := by decide +kernel
theorem kX12_endsRound : q_mok q_mt 438 mX12_endsRound := ⟨by decide +kernel, rfl, q_in_mem kcX12_endsRound, Nat.le_of_ble_eq_true rfl, kaX12_endsRound⟩
theorem kcX12_greaterMany : q_in 2751 (Cond.code mX12_greaterMany.2.1 mX12_greaterMany.2.2.1 mX12_greaterMany.2.2.2.1 mX12_greaterMany.2.2.2.2.1) = true := by decide +kernel
theorem kaX12_greaterMany : rX12_greaterMany.all (q_rck q_mt 438 mX12_greaterMany) = true := by decide +kernel
theorem kX12_greaterMany : q_mok q_mt 438 mX12_greaterMany := ⟨by decide +kernel, rfl, q_in_mem kcX12_greaterMany, Nat.le_of_ble_eq_true rfl, kaX12_greaterMany⟩
theorem kcX12_cuts : q_in 2739 (Cond.code mX12_cuts.2.1 mX12_cuts.2.2.1 mX12_cuts.2.2.2.1 mX12_cuts.2.2.2.2.1) = true := by decide +kernel
theorem kaX12_cuts : rX12_cuts.all (q_rck q_mt 438 mX12_cuts) = true := by decide +kernel
theorem kX12_cuts : q_mok q_mt 438 mX12_cuts := ⟨by decide +kernel, rfl, q_in_mem kcX12_cuts, Nat.le_of_ble_eq_true rfl, kaX12_cuts⟩
theorem kcX12_changeBy : q_in 2767 (Cond.code mX12_changeBy.2.1 mX12_changeBy.2.2.1 mX12_changeBy.2.2.2.1 mX12_changeBy.2.2.2.2.1) = true := by decide +kernel
theorem kaX12_changeBy : rX12_changeBy.all (q_rck q_mt 438 mX12_changeBy) = true := by decide +kernel
theorem kX12_changeBy : q_mok q_mt 438 mX12_changeBy := ⟨by decide +kernel, rfl, q_in_mem kcX12_changeBy, Nat.le_of_ble_eq_true rfl, kaX12_changeBy⟩
theorem kcX12_mark : q_in 2613 (Cond.code mX12_mark.2.1 mX12_mark.2.2.1 mX12_mark.2.2.2.1 mX12_mark.2.2.2.2.1) = true := by decide +kernel
theorem kaX12_mark : rX12_mark.all (q_rck q_mt 438 mX12_mark) = true := by decide +kernel
theorem kX12_mark : q_mok q_mt 438 mX12_mark := ⟨by decide +kernel, rfl, q_in_mem kcX12_mark, Nat.le_of_ble_eq_true rfl, kaX12_mark⟩
theorem kcX12_balk : q_in 2641 (Cond.code mX12_balk.2.1 mX12_balk.2.2.1 mX12_balk.2.2.2.1 mX12_balk.2.2.2.2.1) = true := by decide +kernel
theorem kaX12_balk : rX12_balk.all (q_rck q_mt 438 mX12_balk) = true := by decide +kernel
theorem kX12_balk : q_mok q_mt 438 mX12_balk := ⟨by decide +kernel, rfl, q_in_mem kcX12_balk, Nat.le_of_ble_eq_true rfl, kaX12_balk⟩
theorem kcX12_cap : q_in 2653 (Cond.code mX12_cap.2.1 mX12_cap.2.2.1 mX12_cap.2.2.2.1 mX12_cap.2.2.2.2.1) = true := by decide +kernel
theorem kaX12_cap : rX12_cap.all (q_rck q_mt 438 mX12_cap) = true := by decide +kernel
theorem kX12_cap : q_mok q_mt 438 mX12_cap := ⟨by decide +kernel, rfl, q_in_mem kcX12_cap, Nat.le_of_ble_eq_true rfl, kaX12_cap⟩
theorem kcX12_half : q_in 2661 (Cond.code mX12_half.2.1 mX12_half.2.2.1 mX12_half.2.2.2.1 mX12_half.2.2.2.2.1) = true := by decide +kernel
theorem kaX12_half : rX12_half.all (q_rck q_mt 438 mX12_half) = true := by decide +kernel
theorem kX12_half : q_mok q_mt 438 mX12_half := ⟨by decide +kernel, rfl, q_in_mem kcX12_half, Nat.le_of_ble_eq_true rfl, kaX12_half⟩
theorem kcX12_fail : q_in 2669 (Cond.code mX12_fail.2.1 mX12_fail.2.2.1 mX12_fail.2.2.2.1 mX12_fail.2.2.2.2.1) = true := by decide +kernel
theorem kaX12_fail : rX12_fail.all (q_rck q_mt 438 mX12_fail) = true := by decide +kernel
theorem kX12_fail : q_mok q_mt 438 mX12_fail := ⟨by decide +kernel, rfl, q_in_mem kcX12_fail, Nat.le_of_ble_eq_true rfl, kaX12_fail⟩
theorem kcX12_give : q_in 2677 (Cond.code mX12_give.2.1 mX12_give.2.2.1 mX12_give.2.2.2.1 mX12_give.2.2.2.2.1) = true := by decide +kernel
theorem kaX12_give : rX12_give.all (q_rck q_mt 438 mX12_give) = true := by decide +kernel
theorem kX12_give : q_mok q_mt 438 mX12_give := ⟨by decide +kernel, rfl, q_in_mem kcX12_give, Nat.le_of_ble_eq_true rfl, kaX12_give⟩
theorem kcX12_out : q_in 2755 (Cond.code mX12_out.2.1 mX12_out.2.2.1 mX12_out.2.2.2.1 mX12_out.2.2.2.2.1) = true := by decide +kernel
theorem kaX12_out : rX12_out.all (q_rck q_mt 438 mX12_out) = true := by decide +kernel
theorem kX12_out : q_mok q_mt 438 mX12_out := ⟨by decide +kernel, rfl, q_in_mem kcX12_out, Nat.le_of_ble_eq_true rfl, kaX12_out⟩
theorem kcX12_change : q_in 2763 (Cond.code mX12_change.2.1 mX12_change.2.2.1 mX12_change.2.2.2.1 mX12_change.2.2.2.2.1) = true := by decide +kernel
theorem kaX12_change : rX12_change.all (q_rck q_mt 438 mX12_change) = true := by decide +kernel
theorem kX12_change : q_mok q_mt 438 mX12_change := ⟨by decide +kernel, rfl, q_in_mem kcX12_change, Nat.le_of_ble_eq_true rfl, kaX12_change⟩
theorem kcX12_actHere : q_in 2779 (Cond.code mX12_actHere.2.1 mX12_actHere.2.2.1 mX12_actHere.2.2.2.1 mX12_actHere.2.2.2.2.1) = true := by decide +kernel
theorem kaX12_actHere : rX12_actHere.all (q_rck q_mt 438 mX12_actHere) = true := by decide +kernel
theorem kX12_actHere : q_mok q_mt 438 mX12_actHere := ⟨by decide +kernel, rfl, q_in_mem kcX12_actHere, Nat.le_of_ble_eq_true rfl, kaX12_actHere⟩
theorem kcX12_readsAwards : q_in 2783 (Cond.code mX12_readsAwards.2.1 mX12_readsAwards.2.2.1 mX12_readsAwards.2.2.2.1 mX12_readsAwards.2.2.2.2.1) = true := by decide +kernel
theorem kaX12_readsAwards : rX12_readsAwards.all (q_rck q_mt 438 mX12_readsAwards) = true := by decide +kernel
theorem kX12_readsAwards : q_mok q_mt 438 mX12_readsAwards := ⟨by decide +kernel, rfl, q_in_mem kcX12_readsAwards, Nat.le_of_ble_eq_true rfl, kaX12_readsAwards⟩
theorem kcX12_readsHalf : q_in 2787 (Cond.code mX12_readsHalf.2.1 mX12_readsHalf.2.2.1 mX12_readsHalf.2.2.2.1 mX12_readsHalf.2.2.2.2.1) = true := by decide +kernel
theorem kaX12_readsHalf : rX12_readsHalf.all (q_rck q_mt 438 mX12_readsHalf) = true := by decide +kernel
theorem kX12_readsHalf : q_mok q_mt 438 mX12_readsHalf := ⟨by decide +kernel, rfl, q_in_mem kcX12_readsHalf, Nat.le_of_ble_eq_true rfl, kaX12_readsHalf⟩
theorem kcX12_readsName : q_in 2791 (Cond.code mX12_readsName.2.1 mX12_readsName.2.2.1 mX12_readsName.2.2.2.1 mX12_readsName.2.2.2.2.1) = true := by decide +kernel
theorem kaX12_readsName : rX12_readsName.all (q_rck q_mt 438 mX12_readsName) = true := by decide +kernel
theorem kX12_readsName : q_mok q_mt 438 mX12_readsName := ⟨by decide +kernel, rfl, q_in_mem kcX12_readsName, Nat.le_of_ble_eq_true rfl, kaX12_readsName⟩
theorem kcX12_readsAct : q_in 2775 (Cond.code mX12_readsAct.2.1 mX12_readsAct.2.2.1 mX12_readsAct.2.2.2.1 mX12_readsAct.2.2.2.2.1) = true := by decide +kernel
theorem kaX12_readsAct : rX12_readsAct.all (q_rck q_mt 438 mX12_readsAct) = true := by decide +kernel
theorem kX12_readsAct : q_mok q_mt 438 mX12_readsAct := ⟨by decide +kernel, rfl, q_in_mem kcX12_readsAct, Nat.le_of_ble_eq_true rfl, kaX12_readsAct⟩
theorem kcX12_marksAll : q_in 2799 (Cond.code mX12_marksAll.2.1 mX12_marksAll.2.2.1 mX12_marksAll.2.2.2.1 mX12_marksAll.2.2.2.2.1) = true := by decide +kernel
theorem kaX12_marksAll : rX12_marksAll.all (q_rck q_mt 438 mX12_marksAll) = true := by decide +kernel
theorem kX12_marksAll : q_mok q_mt 438 mX12_marksAll := ⟨by decide +kernel, rfl, q_in_mem kcX12_marksAll, Nat.le_of_ble_eq_true rfl, kaX12_marksAll⟩
theorem kcX12_does : q_in 2795 (Cond.code mX12_does.2.1 mX12_does.2.2.1 mX12_does.2.2.2.1 mX12_does.2.2.2.2.1) = true := by decide +kernel
theorem kaX12_does : rX12_does.all (q_rck q_mt 438 mX12_does) = true := by decide +kernel
theorem kX12_does : q_mok q_mt 438 mX12_does := ⟨by decide +kernel, rfl, q_in_mem kcX12_does, Nat.le_of_ble_eq_true rfl, kaX12_does⟩
theorem kcX12_script : q_in 2771 (Cond.code mX12_script.2.1 mX12_script.2.2.1 mX12_script.2.2.2.1 mX12_script.2.2.2.2.1) = true := by decide +kernel
theorem kaX12_script : rX12_script.all (q_rck q_mt 438 mX12_script) = true := by decide +kernel
theorem kX12_script : q_mok q_mt 438 mX12_script := ⟨by decide +kernel, rfl, q_in_mem kcX12_script, Nat.le_of_ble_eq_true rfl, kaX12_script⟩
theorem kcX12_stopped : q_in 2807 (Cond.code mX12_stopped.2.1 mX12_stopped.2.2.1 mX12_stopped.2.2.2.1 mX12_stopped.2.2.2.2.1) = true := by decide +kernel
theorem kaX12_stopped : rX12_stopped.all (q_rck q_mt 438 mX12_stopped) = true := by decide +kernel
theorem kX12_stopped : q_mok q_mt 438 mX12_stopped := ⟨by decide +kernel, rfl, q_in_mem kcX12_stopped, Nat.le_of_ble_eq_true rfl, kaX12_stopped⟩
theorem kcX12_isGivenDive : q_in 2815 (Cond.code mX12_isGivenDive.2.1 mX12_isGivenDive.2.2.1 mX12_isGivenDive.2.2.2.1 mX12_isGivenDive.2.2.2.2.1) = true := by decide +kernel
theorem kaX12_isGivenDive : rX12_isGivenDive.all (q_rck q_mt 438 mX12_isGivenDive) = true := by decide +kernel
theorem kX12_isGivenDive : q_mok q_mt 438 mX12_isGivenDive := ⟨by decide +kernel, rfl, q_in_mem kcX12_isGivenDive, Nat.le_of_ble_eq_true rfl, kaX12_isGivenDive⟩
theorem kcX12_isJudged : q_in 2823 (Cond.code mX12_isJudged.2.1 mX12_isJudged.2.2.1 mX12_isJudged.2.2.2.1 mX12_isJudged.2.2.2.2.1) = true := by decide +kernel
theorem kaX12_isJudged : rX12_isJudged.all (q_rck q_mt 438 mX12_isJudged) = true := by decide +kernel
theorem kX12_isJudged : q_mok q_mt 438 mX12_isJudged := ⟨by decide +kernel, rfl, q_in_mem kcX12_isJudged, Nat.le_of_ble_eq_true rfl, kaX12_isJudged⟩
theorem kcX12_points : q_in 2811 (Cond.code mX12_points.2.1 mX12_points.2.2.1 mX12_points.2.2.2.1 mX12_points.2.2.2.2.1) = true := by decide +kernel
theorem kaX12_points : rX12_points.all (q_rck q_mt 438 mX12_points) = true := by decide +kernel
theorem kX12_points : q_mok q_mt 438 mX12_points := ⟨by decide +kernel, rfl, q_in_mem kcX12_points, Nat.le_of_ble_eq_true rfl, kaX12_points⟩
theorem kcX12_award : q_in 2819 (Cond.code mX12_award.2.1 mX12_award.2.2.1 mX12_award.2.2.2.1 mX12_award.2.2.2.2.1) = true := by decide +kernel
theorem kaX12_award : rX12_award.all (q_rck q_mt 438 mX12_award) = true := by decide +kernel
theorem kX12_award : q_mok q_mt 438 mX12_award := ⟨by decide +kernel, rfl, q_in_mem kcX12_award, Nat.le_of_ble_eq_true rfl, kaX12_award⟩
theorem kcX12_kept : q_in 2827 (Cond.code mX12_kept.2.1 mX12_kept.2.2.1 mX12_kept.2.2.2.1 mX12_kept.2.2.2.2.1) = true := by decide +kernel
theorem kaX12_kept : rX12_kept.all (q_rck q_mt 438 mX12_kept) = true := by decide +kernel
theorem kX12_kept : q_mok q_mt 438 mX12_kept := ⟨by decide +kernel, rfl, q_in_mem kcX12_kept, Nat.le_of_ble_eq_true rfl, kaX12_kept⟩
