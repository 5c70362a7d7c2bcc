/-! the rows are the code, the sites are the tables' (part 3) -/
theorem kcX8_copyFrom : q_in 1189 (Cond.code mX8_copyFrom.2.1 mX8_copyFrom.2.2.1 mX8_copyFrom.2.2.2.1 mX8_copyFrom.2.2.2.2.1) = true := by decide +kernel
theorem kaX8_copyFrom : rX8_copyFrom.all (q_rck q_mt 438 mX8_copyFrom) = true := by decide +kernel
theorem kX8_copyFrom : q_mok q_mt 438 mX8_copyFrom := ⟨by decide +kernel, rfl, q_in_mem kcX8_copyFrom, Nat.le_of_ble_eq_true rfl, kaX8_copyFrom⟩
theorem kcX8_slotOf : q_in 1256 (Cond.code mX8_slotOf.2.1 mX8_slotOf.2.2.1 mX8_slotOf.2.2.2.1 mX8_slotOf.2.2.2.2.1) = true := by decide +kernel
theorem kaX8_slotOf : rX8_slotOf.all (q_rck q_mt 438 mX8_slotOf) = true := by decide +kernel
theorem kX8_slotOf : q_mok q_mt 438 mX8_slotOf := ⟨by decide +kernel, rfl, q_in_mem kcX8_slotOf, Nat.le_of_ble_eq_true rfl, kaX8_slotOf⟩
theorem kcX8_boardSlot : q_in 1210 (Cond.code mX8_boardSlot.2.1 mX8_boardSlot.2.2.1 mX8_boardSlot.2.2.2.1 mX8_boardSlot.2.2.2.2.1) = true := by decide +kernel
theorem kaX8_boardSlot : rX8_boardSlot.all (q_rck q_mt 438 mX8_boardSlot) = true := by decide +kernel
theorem kX8_boardSlot : q_mok q_mt 438 mX8_boardSlot := ⟨by decide +kernel, rfl, q_in_mem kcX8_boardSlot, Nat.le_of_ble_eq_true rfl, kaX8_boardSlot⟩
theorem kcX8_clearSlot : q_in 1099 (Cond.code mX8_clearSlot.2.1 mX8_clearSlot.2.2.1 mX8_clearSlot.2.2.2.1 mX8_clearSlot.2.2.2.2.1) = true := by decide +kernel
theorem kaX8_clearSlot : rX8_clearSlot.all (q_rck q_mt 438 mX8_clearSlot) = true := by decide +kernel
theorem kX8_clearSlot : q_mok q_mt 438 mX8_clearSlot := ⟨by decide +kernel, rfl, q_in_mem kcX8_clearSlot, Nat.le_of_ble_eq_true rfl, kaX8_clearSlot⟩
theorem kcX8_clearMarks : q_in 1103 (Cond.code mX8_clearMarks.2.1 mX8_clearMarks.2.2.1 mX8_clearMarks.2.2.2.1 mX8_clearMarks.2.2.2.2.1) = true := by decide +kernel
theorem kaX8_clearMarks : rX8_clearMarks.all (q_rck q_mt 438 mX8_clearMarks) = true := by decide +kernel
theorem kX8_clearMarks : q_mok q_mt 438 mX8_clearMarks := ⟨by decide +kernel, rfl, q_in_mem kcX8_clearMarks, Nat.le_of_ble_eq_true rfl, kaX8_clearMarks⟩
theorem kcX8_countMarks : q_in 1249 (Cond.code mX8_countMarks.2.1 mX8_countMarks.2.2.1 mX8_countMarks.2.2.2.1 mX8_countMarks.2.2.2.2.1) = true := by decide +kernel
theorem kaX8_countMarks : rX8_countMarks.all (q_rck q_mt 438 mX8_countMarks) = true := by decide +kernel
theorem kX8_countMarks : q_mok q_mt 438 mX8_countMarks := ⟨by decide +kernel, rfl, q_in_mem kcX8_countMarks, Nat.le_of_ble_eq_true rfl, kaX8_countMarks⟩
theorem kcX8_pointsOf : q_in 1548 (Cond.code mX8_pointsOf.2.1 mX8_pointsOf.2.2.1 mX8_pointsOf.2.2.2.1 mX8_pointsOf.2.2.2.2.1) = true := by decide +kernel
theorem kaX8_pointsOf : rX8_pointsOf.all (q_rck q_mt 438 mX8_pointsOf) = true := by decide +kernel
theorem kX8_pointsOf : q_mok q_mt 438 mX8_pointsOf := ⟨by decide +kernel, rfl, q_in_mem kcX8_pointsOf, Nat.le_of_ble_eq_true rfl, kaX8_pointsOf⟩
theorem kcX8_isFailed : q_in 1584 (Cond.code mX8_isFailed.2.1 mX8_isFailed.2.2.1 mX8_isFailed.2.2.2.1 mX8_isFailed.2.2.2.2.1) = true := by decide +kernel
theorem kaX8_isFailed : rX8_isFailed.all (q_rck q_mt 438 mX8_isFailed) = true := by decide +kernel
theorem kX8_isFailed : q_mok q_mt 438 mX8_isFailed := ⟨by decide +kernel, rfl, q_in_mem kcX8_isFailed, Nat.le_of_ble_eq_true rfl, kaX8_isFailed⟩
theorem kcX8_countAllGiven : q_in 1957 (Cond.code mX8_countAllGiven.2.1 mX8_countAllGiven.2.2.1 mX8_countAllGiven.2.2.2.1 mX8_countAllGiven.2.2.2.2.1) = true := by decide +kernel
theorem kaX8_countAllGiven : rX8_countAllGiven.all (q_rck q_mt 438 mX8_countAllGiven) = true := by decide +kernel
theorem kX8_countAllGiven : q_mok q_mt 438 mX8_countAllGiven := ⟨by decide +kernel, rfl, q_in_mem kcX8_countAllGiven, Nat.le_of_ble_eq_true rfl, kaX8_countAllGiven⟩
theorem kcX8_sumPoints : q_in 1599 (Cond.code mX8_sumPoints.2.1 mX8_sumPoints.2.2.1 mX8_sumPoints.2.2.2.1 mX8_sumPoints.2.2.2.2.1) = true := by decide +kernel
theorem kaX8_sumPoints : rX8_sumPoints.all (q_rck q_mt 438 mX8_sumPoints) = true := by decide +kernel
theorem kX8_sumPoints : q_mok q_mt 438 mX8_sumPoints := ⟨by decide +kernel, rfl, q_in_mem kcX8_sumPoints, Nat.le_of_ble_eq_true rfl, kaX8_sumPoints⟩
theorem kcX8_hasListed : q_in 1553 (Cond.code mX8_hasListed.2.1 mX8_hasListed.2.2.1 mX8_hasListed.2.2.2.1 mX8_hasListed.2.2.2.2.1) = true := by decide +kernel
theorem kaX8_hasListed : rX8_hasListed.all (q_rck q_mt 438 mX8_hasListed) = true := by decide +kernel
theorem kX8_hasListed : q_mok q_mt 438 mX8_hasListed := ⟨by decide +kernel, rfl, q_in_mem kcX8_hasListed, Nat.le_of_ble_eq_true rfl, kaX8_hasListed⟩
theorem kcX9_init : q_in 243 (Cond.code mX9_init.2.1 mX9_init.2.2.1 mX9_init.2.2.2.1 mX9_init.2.2.2.2.1) = true := by decide +kernel
theorem kaX9_init : rX9_init.all (q_rck q_mt 438 mX9_init) = true := by decide +kernel
theorem kX9_init : q_mok q_mt 438 mX9_init := ⟨by decide +kernel, rfl, q_in_mem kcX9_init, Nat.le_of_ble_eq_true rfl, kaX9_init⟩
theorem kcX9_addFour : q_in 878 (Cond.code mX9_addFour.2.1 mX9_addFour.2.2.1 mX9_addFour.2.2.2.1 mX9_addFour.2.2.2.2.1) = true := by decide +kernel
theorem kaX9_addFour : rX9_addFour.all (q_rck q_mt 438 mX9_addFour) = true := by decide +kernel
theorem kX9_addFour : q_mok q_mt 438 mX9_addFour := ⟨by decide +kernel, rfl, q_in_mem kcX9_addFour, Nat.le_of_ble_eq_true rfl, kaX9_addFour⟩
theorem kcX9_start : q_in 905 (Cond.code mX9_start.2.1 mX9_start.2.2.1 mX9_start.2.2.2.1 mX9_start.2.2.2.2.1) = true := by decide +kernel
theorem kaX9_start : rX9_start.all (q_rck q_mt 438 mX9_start) = true := by decide +kernel
theorem kX9_start : q_mok q_mt 438 mX9_start := ⟨by decide +kernel, rfl, q_in_mem kcX9_start, Nat.le_of_ble_eq_true rfl, kaX9_start⟩
theorem kcX9_advance : q_in 909 (Cond.code mX9_advance.2.1 mX9_advance.2.2.1 mX9_advance.2.2.2.1 mX9_advance.2.2.2.2.1) = true := by decide +kernel
theorem kaX9_advance : rX9_advance.all (q_rck q_mt 438 mX9_advance) = true := by decide +kernel
theorem kX9_advance : q_mok q_mt 438 mX9_advance := ⟨by decide +kernel, rfl, q_in_mem kcX9_advance, Nat.le_of_ble_eq_true rfl, kaX9_advance⟩
theorem kcX9_readWord : q_in 913 (Cond.code mX9_readWord.2.1 mX9_readWord.2.2.1 mX9_readWord.2.2.2.1 mX9_readWord.2.2.2.2.1) = true := by decide +kernel
theorem kaX9_readWord : rX9_readWord.all (q_rck q_mt 438 mX9_readWord) = true := by decide +kernel
theorem kX9_readWord : q_mok q_mt 438 mX9_readWord := ⟨by decide +kernel, rfl, q_in_mem kcX9_readWord, Nat.le_of_ble_eq_true rfl, kaX9_readWord⟩
theorem kcX9_readNumber : q_in 917 (Cond.code mX9_readNumber.2.1 mX9_readNumber.2.2.1 mX9_readNumber.2.2.2.1 mX9_readNumber.2.2.2.2.1) = true := by decide +kernel
theorem kaX9_readNumber : rX9_readNumber.all (q_rck q_mt 438 mX9_readNumber) = true := by decide +kernel
theorem kX9_readNumber : q_mok q_mt 438 mX9_readNumber := ⟨by decide +kernel, rfl, q_in_mem kcX9_readNumber, Nat.le_of_ble_eq_true rfl, kaX9_readNumber⟩
theorem kcX9_isWord : q_in 954 (Cond.code mX9_isWord.2.1 mX9_isWord.2.2.1 mX9_isWord.2.2.2.1 mX9_isWord.2.2.2.2.1) = true := by decide +kernel
theorem kaX9_isWord : rX9_isWord.all (q_rck q_mt 438 mX9_isWord) = true := by decide +kernel
theorem kX9_isWord : q_mok q_mt 438 mX9_isWord := ⟨by decide +kernel, rfl, q_in_mem kcX9_isWord, Nat.le_of_ble_eq_true rfl, kaX9_isWord⟩
theorem kcX9_isSign : q_in 1016 (Cond.code mX9_isSign.2.1 mX9_isSign.2.2.1 mX9_isSign.2.2.2.1 mX9_isSign.2.2.2.2.1) = true := by decide +kernel
theorem kaX9_isSign : rX9_isSign.all (q_rck q_mt 438 mX9_isSign) = true := by decide +kernel
theorem kX9_isSign : q_mok q_mt 438 mX9_isSign := ⟨by decide +kernel, rfl, q_in_mem kcX9_isSign, Nat.le_of_ble_eq_true rfl, kaX9_isSign⟩
theorem kcX9_takeWord : q_in 950 (Cond.code mX9_takeWord.2.1 mX9_takeWord.2.2.1 mX9_takeWord.2.2.2.1 mX9_takeWord.2.2.2.2.1) = true := by decide +kernel
theorem kaX9_takeWord : rX9_takeWord.all (q_rck q_mt 438 mX9_takeWord) = true := by decide +kernel
theorem kX9_takeWord : q_mok q_mt 438 mX9_takeWord := ⟨by decide +kernel, rfl, q_in_mem kcX9_takeWord, Nat.le_of_ble_eq_true rfl, kaX9_takeWord⟩
theorem kcX9_takeSign : q_in 1023 (Cond.code mX9_takeSign.2.1 mX9_takeSign.2.2.1 mX9_takeSign.2.2.2.1 mX9_takeSign.2.2.2.2.1) = true := by decide +kernel
theorem kaX9_takeSign : rX9_takeSign.all (q_rck q_mt 438 mX9_takeSign) = true := by decide +kernel
theorem kX9_takeSign : q_mok q_mt 438 mX9_takeSign := ⟨by decide +kernel, rfl, q_in_mem kcX9_takeSign, Nat.le_of_ble_eq_true rfl, kaX9_takeSign⟩
theorem kcX9_takeNumber : q_in 945 (Cond.code mX9_takeNumber.2.1 mX9_takeNumber.2.2.1 mX9_takeNumber.2.2.2.1 mX9_takeNumber.2.2.2.2.1) = true := by decide +kernel
theorem kaX9_takeNumber : rX9_takeNumber.all (q_rck q_mt 438 mX9_takeNumber) = true := by decide +kernel
theorem kX9_takeNumber : q_mok q_mt 438 mX9_takeNumber := ⟨by decide +kernel, rfl, q_in_mem kcX9_takeNumber, Nat.le_of_ble_eq_true rfl, kaX9_takeNumber⟩
theorem kcX9_refuse : q_in 928 (Cond.code mX9_refuse.2.1 mX9_refuse.2.2.1 mX9_refuse.2.2.2.1 mX9_refuse.2.2.2.2.1) = true := by decide +kernel
theorem kaX9_refuse : rX9_refuse.all (q_rck q_mt 438 mX9_refuse) = true := by decide +kernel
theorem kX9_refuse : q_mok q_mt 438 mX9_refuse := ⟨by decide +kernel, rfl, q_in_mem kcX9_refuse, Nat.le_of_ble_eq_true rfl, kaX9_refuse⟩
theorem kcX9_readLoneName : q_in 1325 (Cond.code mX9_readLoneName.2.1 mX9_readLoneName.2.2.1 mX9_readLoneName.2.2.2.1 mX9_readLoneName.2.2.2.2.1) = true := by decide +kernel
theorem kaX9_readLoneName : rX9_readLoneName.all (q_rck q_mt 438 mX9_readLoneName) = true := by decide +kernel
theorem kX9_readLoneName : q_mok q_mt 438 mX9_readLoneName := ⟨by decide +kernel, rfl, q_in_mem kcX9_readLoneName, Nat.le_of_ble_eq_true rfl, kaX9_readLoneName⟩
theorem kcX10_init : q_in 683 (Cond.code mX10_init.2.1 mX10_init.2.2.1 mX10_init.2.2.2.1 mX10_init.2.2.2.2.1) = true := by decide +kernel
theorem kaX10_init : rX10_init.all (q_rck q_mt 438 mX10_init) = true := by decide +kernel
theorem kX10_init : q_mok q_mt 438 mX10_init := ⟨by decide +kernel, rfl, q_in_mem kcX10_init, Nat.le_of_ble_eq_true rfl, kaX10_init⟩
theorem kcX10_forget : q_in 1090 (Cond.code mX10_forget.2.1 mX10_forget.2.2.1 mX10_forget.2.2.2.1 mX10_forget.2.2.2.2.1) = true := by decide +kernel
theorem kaX10_forget : rX10_forget.all (q_rck q_mt 438 mX10_forget) = true := by decide +kernel
theorem kX10_forget : q_mok q_mt 438 mX10_forget := ⟨by decide +kernel, rfl, q_in_mem kcX10_forget, Nat.le_of_ble_eq_true rfl, kaX10_forget⟩
theorem kcX10_gather : q_in 1391 (Cond.code mX10_gather.2.1 mX10_gather.2.2.1 mX10_gather.2.2.2.1 mX10_gather.2.2.2.2.1) = true := by decide +kernel
theorem kaX10_gather : rX10_gather.all (q_rck q_mt 438 mX10_gather) = true := by decide +kernel
theorem kX10_gather : q_mok q_mt 438 mX10_gather := ⟨by decide +kernel, rfl, q_in_mem kcX10_gather, Nat.le_of_ble_eq_true rfl, kaX10_gather⟩
theorem kcX10_gatherRound : q_in 1386 (Cond.code mX10_gatherRound.2.1 mX10_gatherRound.2.2.1 mX10_gatherRound.2.2.2.1 mX10_gatherRound.2.2.2.2.1) = true := by decide +kernel
theorem kaX10_gatherRound : rX10_gatherRound.all (q_rck q_mt 438 mX10_gatherRound) = true := by decide +kernel
theorem kX10_gatherRound : q_mok q_mt 438 mX10_gatherRound := ⟨by decide +kernel, rfl, q_in_mem kcX10_gatherRound, Nat.le_of_ble_eq_true rfl, kaX10_gatherRound⟩
theorem kcX10_isSo : q_in 1382 (Cond.code mX10_isSo.2.1 mX10_isSo.2.2.1 mX10_isSo.2.2.2.1 mX10_isSo.2.2.2.2.1) = true := by decide +kernel
theorem kaX10_isSo : rX10_isSo.all (q_rck q_mt 438 mX10_isSo) = true := by decide +kernel
theorem kX10_isSo : q_mok q_mt 438 mX10_isSo := ⟨by decide +kernel, rfl, q_in_mem kcX10_isSo, Nat.le_of_ble_eq_true rfl, kaX10_isSo⟩
theorem kcX10_findBrokenLaw : q_in 1411 (Cond.code mX10_findBrokenLaw.2.1 mX10_findBrokenLaw.2.2.1 mX10_findBrokenLaw.2.2.2.1 mX10_findBrokenLaw.2.2.2.2.1) = true := by decide +kernel
theorem kaX10_findBrokenLaw : rX10_findBrokenLaw.all (q_rck q_mt 438 mX10_findBrokenLaw) = true := by decide +kernel
theorem kX10_findBrokenLaw : q_mok q_mt 438 mX10_findBrokenLaw := ⟨by decide +kernel, rfl, q_in_mem kcX10_findBrokenLaw, Nat.le_of_ble_eq_true rfl, kaX10_findBrokenLaw⟩
theorem kcX10_findBreak : q_in 1407 (Cond.code mX10_findBreak.2.1 mX10_findBreak.2.2.1 mX10_findBreak.2.2.2.1 mX10_findBreak.2.2.2.2.1) = true := by decide +kernel
theorem kaX10_findBreak : rX10_findBreak.all (q_rck q_mt 438 mX10_findBreak) = true := by decide +kernel
theorem kX10_findBreak : q_mok q_mt 438 mX10_findBreak := ⟨by decide +kernel, rfl, q_in_mem kcX10_findBreak, Nat.le_of_ble_eq_true rfl, kaX10_findBreak⟩
theorem kcX10_isFit : q_in 1432 (Cond.code mX10_isFit.2.1 mX10_isFit.2.2.1 mX10_isFit.2.2.2.1 mX10_isFit.2.2.2.2.1) = true := by decide +kernel
theorem kaX10_isFit : rX10_isFit.all (q_rck q_mt 438 mX10_isFit) = true := by decide +kernel
theorem kX10_isFit : q_mok q_mt 438 mX10_isFit := ⟨by decide +kernel, rfl, q_in_mem kcX10_isFit, Nat.le_of_ble_eq_true rfl, kaX10_isFit⟩
theorem kcX10_learn : q_in 1424 (Cond.code mX10_learn.2.1 mX10_learn.2.2.1 mX10_learn.2.2.2.1 mX10_learn.2.2.2.2.1) = true := by decide +kernel
theorem kaX10_learn : rX10_learn.all (q_rck q_mt 438 mX10_learn) = true := by decide +kernel
theorem kX10_learn : q_mok q_mt 438 mX10_learn := ⟨by decide +kernel, rfl, q_in_mem kcX10_learn, Nat.le_of_ble_eq_true rfl, kaX10_learn⟩
theorem kcX10_learnFits : q_in 1428 (Cond.code mX10_learnFits.2.1 mX10_learnFits.2.2.1 mX10_learnFits.2.2.2.1 mX10_learnFits.2.2.2.2.1) = true := by decide +kernel
theorem kaX10_learnFits : rX10_learnFits.all (q_rck q_mt 438 mX10_learnFits) = true := by decide +kernel
theorem kX10_learnFits : q_mok q_mt 438 mX10_learnFits := ⟨by decide +kernel, rfl, q_in_mem kcX10_learnFits, Nat.le_of_ble_eq_true rfl, kaX10_learnFits⟩
theorem kcX10_countRows : q_in 1420 (Cond.code mX10_countRows.2.1 mX10_countRows.2.2.1 mX10_countRows.2.2.2.1 mX10_countRows.2.2.2.2.1) = true := by decide +kernel
theorem kaX10_countRows : rX10_countRows.all (q_rck q_mt 438 mX10_countRows) = true := by decide +kernel
theorem kX10_countRows : q_mok q_mt 438 mX10_countRows := ⟨by decide +kernel, rfl, q_in_mem kcX10_countRows, Nat.le_of_ble_eq_true rfl, kaX10_countRows⟩
theorem kcX10_diveInRow : q_in 1440 (Cond.code mX10_diveInRow.2.1 mX10_diveInRow.2.2.1 mX10_diveInRow.2.2.2.1 mX10_diveInRow.2.2.2.2.1) = true := by decide +kernel
theorem kaX10_diveInRow : rX10_diveInRow.all (q_rck q_mt 438 mX10_diveInRow) = true := by decide +kernel
theorem kX10_diveInRow : q_mok q_mt 438 mX10_diveInRow := ⟨by decide +kernel, rfl, q_in_mem kcX10_diveInRow, Nat.le_of_ble_eq_true rfl, kaX10_diveInRow⟩
theorem kcX10_allowAll : q_in 1448 (Cond.code mX10_allowAll.2.1 mX10_allowAll.2.2.1 mX10_allowAll.2.2.2.1 mX10_allowAll.2.2.2.2.1) = true := by decide +kernel
theorem kaX10_allowAll : rX10_allowAll.all (q_rck q_mt 438 mX10_allowAll) = true := by decide +kernel
theorem kX10_allowAll : q_mok q_mt 438 mX10_allowAll := ⟨by decide +kernel, rfl, q_in_mem kcX10_allowAll, Nat.le_of_ble_eq_true rfl, kaX10_allowAll⟩
theorem kcX10_allowOrders : q_in 1916 (Cond.code mX10_allowOrders.2.1 mX10_allowOrders.2.2.1 mX10_allowOrders.2.2.2.1 mX10_allowOrders.2.2.2.2.1) = true := by decide +kernel
theorem kaX10_allowOrders : rX10_allowOrders.all (q_rck q_mt 438 mX10_allowOrders) = true := by decide +kernel
theorem kX10_allowOrders : q_mok q_mt 438 mX10_allowOrders := ⟨by decide +kernel, rfl, q_in_mem kcX10_allowOrders, Nat.le_of_ble_eq_true rfl, kaX10_allowOrders⟩
theorem kcX10_isFixed : q_in 1921 (Cond.code mX10_isFixed.2.1 mX10_isFixed.2.2.1 mX10_isFixed.2.2.2.1 mX10_isFixed.2.2.2.2.1) = true := by decide +kernel
theorem kaX10_isFixed : rX10_isFixed.all (q_rck q_mt 438 mX10_isFixed) = true := by decide +kernel
theorem kX10_isFixed : q_mok q_mt 438 mX10_isFixed := ⟨by decide +kernel, rfl, q_in_mem kcX10_isFixed, Nat.le_of_ble_eq_true rfl, kaX10_isFixed⟩
theorem kcX10_tellBest : q_in 1453 (Cond.code mX10_tellBest.2.1 mX10_tellBest.2.2.1 mX10_tellBest.2.2.2.1 mX10_tellBest.2.2.2.2.1) = true := by decide +kernel
theorem kaX10_tellBest : rX10_tellBest.all (q_rck q_mt 438 mX10_tellBest) = true := by decide +kernel
theorem kX10_tellBest : q_mok q_mt 438 mX10_tellBest := ⟨by decide +kernel, rfl, q_in_mem kcX10_tellBest, Nat.le_of_ble_eq_true rfl, kaX10_tellBest⟩
