/-! the rows are the code, the sites are the tables' (part 2) -/
theorem kcX5_countOfSort : q_in 1830 (Cond.code mX5_countOfSort.2.1 mX5_countOfSort.2.2.1 mX5_countOfSort.2.2.2.1 mX5_countOfSort.2.2.2.2.1) = true := by decide +kernel
theorem kaX5_countOfSort : rX5_countOfSort.all (q_rck q_mt 438 mX5_countOfSort) = true := by decide +kernel
theorem kX5_countOfSort : q_mok q_mt 438 mX5_countOfSort := ⟨by decide +kernel, rfl, q_in_mem kcX5_countOfSort, Nat.le_of_ble_eq_true rfl, kaX5_countOfSort⟩
theorem kcX5_middleOf : q_in 1852 (Cond.code mX5_middleOf.2.1 mX5_middleOf.2.2.1 mX5_middleOf.2.2.2.1 mX5_middleOf.2.2.2.2.1) = true := by decide +kernel
theorem kaX5_middleOf : rX5_middleOf.all (q_rck q_mt 438 mX5_middleOf) = true := by decide +kernel
theorem kX5_middleOf : q_mok q_mt 438 mX5_middleOf := ⟨by decide +kernel, rfl, q_in_mem kcX5_middleOf, Nat.le_of_ble_eq_true rfl, kaX5_middleOf⟩
theorem kcX6_init : q_in 664 (Cond.code mX6_init.2.1 mX6_init.2.2.1 mX6_init.2.2.2.1 mX6_init.2.2.2.2.1) = true := by decide +kernel
theorem kaX6_init : rX6_init.all (q_rck q_mt 438 mX6_init) = true := by decide +kernel
theorem kX6_init : q_mok q_mt 438 mX6_init := ⟨by decide +kernel, rfl, q_in_mem kcX6_init, Nat.le_of_ble_eq_true rfl, kaX6_init⟩
theorem kcX6_begin : q_in 1094 (Cond.code mX6_begin.2.1 mX6_begin.2.2.1 mX6_begin.2.2.2.1 mX6_begin.2.2.2.2.1) = true := by decide +kernel
theorem kaX6_begin : rX6_begin.all (q_rck q_mt 438 mX6_begin) = true := by decide +kernel
theorem kX6_begin : q_mok q_mt 438 mX6_begin := ⟨by decide +kernel, rfl, q_in_mem kcX6_begin, Nat.le_of_ble_eq_true rfl, kaX6_begin⟩
theorem kcX6_isIn : q_in 1123 (Cond.code mX6_isIn.2.1 mX6_isIn.2.2.1 mX6_isIn.2.2.2.1 mX6_isIn.2.2.2.2.1) = true := by decide +kernel
theorem kaX6_isIn : rX6_isIn.all (q_rck q_mt 438 mX6_isIn) = true := by decide +kernel
theorem kX6_isIn : q_mok q_mt 438 mX6_isIn := ⟨by decide +kernel, rfl, q_in_mem kcX6_isIn, Nat.le_of_ble_eq_true rfl, kaX6_isIn⟩
theorem kcX6_countIn : q_in 1135 (Cond.code mX6_countIn.2.1 mX6_countIn.2.2.1 mX6_countIn.2.2.2.1 mX6_countIn.2.2.2.2.1) = true := by decide +kernel
theorem kaX6_countIn : rX6_countIn.all (q_rck q_mt 438 mX6_countIn) = true := by decide +kernel
theorem kX6_countIn : q_mok q_mt 438 mX6_countIn := ⟨by decide +kernel, rfl, q_in_mem kcX6_countIn, Nat.le_of_ble_eq_true rfl, kaX6_countIn⟩
theorem kcX6_callNext : q_in 1107 (Cond.code mX6_callNext.2.1 mX6_callNext.2.2.1 mX6_callNext.2.2.2.1 mX6_callNext.2.2.2.2.1) = true := by decide +kernel
theorem kaX6_callNext : rX6_callNext.all (q_rck q_mt 438 mX6_callNext) = true := by decide +kernel
theorem kX6_callNext : q_mok q_mt 438 mX6_callNext := ⟨by decide +kernel, rfl, q_in_mem kcX6_callNext, Nat.le_of_ble_eq_true rfl, kaX6_callNext⟩
theorem kcX6_callFrom : q_in 1111 (Cond.code mX6_callFrom.2.1 mX6_callFrom.2.2.1 mX6_callFrom.2.2.2.1 mX6_callFrom.2.2.2.2.1) = true := by decide +kernel
theorem kaX6_callFrom : rX6_callFrom.all (q_rck q_mt 438 mX6_callFrom) = true := by decide +kernel
theorem kX6_callFrom : q_mok q_mt 438 mX6_callFrom := ⟨by decide +kernel, rfl, q_in_mem kcX6_callFrom, Nat.le_of_ble_eq_true rfl, kaX6_callFrom⟩
theorem kcX6_doCut : q_in 1119 (Cond.code mX6_doCut.2.1 mX6_doCut.2.2.1 mX6_doCut.2.2.2.1 mX6_doCut.2.2.2.2.1) = true := by decide +kernel
theorem kaX6_doCut : rX6_doCut.all (q_rck q_mt 438 mX6_doCut) = true := by decide +kernel
theorem kX6_doCut : q_mok q_mt 438 mX6_doCut := ⟨by decide +kernel, rfl, q_in_mem kcX6_doCut, Nat.le_of_ble_eq_true rfl, kaX6_doCut⟩
theorem kcX6_isAmong : q_in 1127 (Cond.code mX6_isAmong.2.1 mX6_isAmong.2.2.1 mX6_isAmong.2.2.2.1 mX6_isAmong.2.2.2.2.1) = true := by decide +kernel
theorem kaX6_isAmong : rX6_isAmong.all (q_rck q_mt 438 mX6_isAmong) = true := by decide +kernel
theorem kX6_isAmong : q_mok q_mt 438 mX6_isAmong := ⟨by decide +kernel, rfl, q_in_mem kcX6_isAmong, Nat.le_of_ble_eq_true rfl, kaX6_isAmong⟩
theorem kcX6_queueByTotals : q_in 1131 (Cond.code mX6_queueByTotals.2.1 mX6_queueByTotals.2.2.1 mX6_queueByTotals.2.2.2.1 mX6_queueByTotals.2.2.2.2.1) = true := by decide +kernel
theorem kaX6_queueByTotals : rX6_queueByTotals.all (q_rck q_mt 438 mX6_queueByTotals) = true := by decide +kernel
theorem kX6_queueByTotals : q_mok q_mt 438 mX6_queueByTotals := ⟨by decide +kernel, rfl, q_in_mem kcX6_queueByTotals, Nat.le_of_ble_eq_true rfl, kaX6_queueByTotals⟩
theorem kcX6_findNextCut : q_in 1901 (Cond.code mX6_findNextCut.2.1 mX6_findNextCut.2.2.1 mX6_findNextCut.2.2.2.1 mX6_findNextCut.2.2.2.2.1) = true := by decide +kernel
theorem kaX6_findNextCut : rX6_findNextCut.all (q_rck q_mt 438 mX6_findNextCut) = true := by decide +kernel
theorem kX6_findNextCut : q_mok q_mt 438 mX6_findNextCut := ⟨by decide +kernel, rfl, q_in_mem kcX6_findNextCut, Nat.le_of_ble_eq_true rfl, kaX6_findNextCut⟩
theorem kcX6_isFree : q_in 1544 (Cond.code mX6_isFree.2.1 mX6_isFree.2.2.1 mX6_isFree.2.2.2.1 mX6_isFree.2.2.2.2.1) = true := by decide +kernel
theorem kaX6_isFree : rX6_isFree.all (q_rck q_mt 438 mX6_isFree) = true := by decide +kernel
theorem kX6_isFree : q_mok q_mt 438 mX6_isFree := ⟨by decide +kernel, rfl, q_in_mem kcX6_isFree, Nat.le_of_ble_eq_true rfl, kaX6_isFree⟩
theorem kcX6_isReady : q_in 1206 (Cond.code mX6_isReady.2.1 mX6_isReady.2.2.1 mX6_isReady.2.2.2.1 mX6_isReady.2.2.2.2.1) = true := by decide +kernel
theorem kaX6_isReady : rX6_isReady.all (q_rck q_mt 438 mX6_isReady) = true := by decide +kernel
theorem kX6_isReady : q_mok q_mt 438 mX6_isReady := ⟨by decide +kernel, rfl, q_in_mem kcX6_isReady, Nat.le_of_ble_eq_true rfl, kaX6_isReady⟩
theorem kcX6_doMark : q_in 1502 (Cond.code mX6_doMark.2.1 mX6_doMark.2.2.1 mX6_doMark.2.2.2.1 mX6_doMark.2.2.2.2.1) = true := by decide +kernel
theorem kaX6_doMark : rX6_doMark.all (q_rck q_mt 438 mX6_doMark) = true := by decide +kernel
theorem kX6_doMark : q_mok q_mt 438 mX6_doMark := ⟨by decide +kernel, rfl, q_in_mem kcX6_doMark, Nat.le_of_ble_eq_true rfl, kaX6_doMark⟩
theorem kcX6_doAll : q_in 1223 (Cond.code mX6_doAll.2.1 mX6_doAll.2.2.1 mX6_doAll.2.2.2.1 mX6_doAll.2.2.2.2.1) = true := by decide +kernel
theorem kaX6_doAll : rX6_doAll.all (q_rck q_mt 438 mX6_doAll) = true := by decide +kernel
theorem kX6_doAll : q_mok q_mt 438 mX6_doAll := ⟨by decide +kernel, rfl, q_in_mem kcX6_doAll, Nat.le_of_ble_eq_true rfl, kaX6_doAll⟩
theorem kcX6_doMarks : q_in 1202 (Cond.code mX6_doMarks.2.1 mX6_doMarks.2.2.1 mX6_doMarks.2.2.2.1 mX6_doMarks.2.2.2.2.1) = true := by decide +kernel
theorem kaX6_doMarks : rX6_doMarks.all (q_rck q_mt 438 mX6_doMarks) = true := by decide +kernel
theorem kX6_doMarks : q_mok q_mt 438 mX6_doMarks := ⟨by decide +kernel, rfl, q_in_mem kcX6_doMarks, Nat.le_of_ble_eq_true rfl, kaX6_doMarks⟩
theorem kcX6_doBalk : q_in 1227 (Cond.code mX6_doBalk.2.1 mX6_doBalk.2.2.1 mX6_doBalk.2.2.2.1 mX6_doBalk.2.2.2.2.1) = true := by decide +kernel
theorem kaX6_doBalk : rX6_doBalk.all (q_rck q_mt 438 mX6_doBalk) = true := by decide +kernel
theorem kX6_doBalk : q_mok q_mt 438 mX6_doBalk := ⟨by decide +kernel, rfl, q_in_mem kcX6_doBalk, Nat.le_of_ble_eq_true rfl, kaX6_doBalk⟩
theorem kcX6_doCap : q_in 1236 (Cond.code mX6_doCap.2.1 mX6_doCap.2.2.1 mX6_doCap.2.2.2.1 mX6_doCap.2.2.2.2.1) = true := by decide +kernel
theorem kaX6_doCap : rX6_doCap.all (q_rck q_mt 438 mX6_doCap) = true := by decide +kernel
theorem kX6_doCap : q_mok q_mt 438 mX6_doCap := ⟨by decide +kernel, rfl, q_in_mem kcX6_doCap, Nat.le_of_ble_eq_true rfl, kaX6_doCap⟩
theorem kcX6_doHalf : q_in 1240 (Cond.code mX6_doHalf.2.1 mX6_doHalf.2.2.1 mX6_doHalf.2.2.2.1 mX6_doHalf.2.2.2.2.1) = true := by decide +kernel
theorem kaX6_doHalf : rX6_doHalf.all (q_rck q_mt 438 mX6_doHalf) = true := by decide +kernel
theorem kX6_doHalf : q_mok q_mt 438 mX6_doHalf := ⟨by decide +kernel, rfl, q_in_mem kcX6_doHalf, Nat.le_of_ble_eq_true rfl, kaX6_doHalf⟩
theorem kcX6_doFail : q_in 1231 (Cond.code mX6_doFail.2.1 mX6_doFail.2.2.1 mX6_doFail.2.2.2.1 mX6_doFail.2.2.2.2.1) = true := by decide +kernel
theorem kaX6_doFail : rX6_doFail.all (q_rck q_mt 438 mX6_doFail) = true := by decide +kernel
theorem kX6_doFail : q_mok q_mt 438 mX6_doFail := ⟨by decide +kernel, rfl, q_in_mem kcX6_doFail, Nat.le_of_ble_eq_true rfl, kaX6_doFail⟩
theorem kcX6_doGive : q_in 1245 (Cond.code mX6_doGive.2.1 mX6_doGive.2.2.1 mX6_doGive.2.2.2.1 mX6_doGive.2.2.2.2.1) = true := by decide +kernel
theorem kaX6_doGive : rX6_doGive.all (q_rck q_mt 438 mX6_doGive) = true := by decide +kernel
theorem kX6_doGive : q_mok q_mt 438 mX6_doGive := ⟨by decide +kernel, rfl, q_in_mem kcX6_doGive, Nat.le_of_ble_eq_true rfl, kaX6_doGive⟩
theorem kcX6_doOut : q_in 1300 (Cond.code mX6_doOut.2.1 mX6_doOut.2.2.1 mX6_doOut.2.2.2.1 mX6_doOut.2.2.2.2.1) = true := by decide +kernel
theorem kaX6_doOut : rX6_doOut.all (q_rck q_mt 438 mX6_doOut) = true := by decide +kernel
theorem kX6_doOut : q_mok q_mt 438 mX6_doOut := ⟨by decide +kernel, rfl, q_in_mem kcX6_doOut, Nat.le_of_ble_eq_true rfl, kaX6_doOut⟩
theorem kcX6_rankOf : q_in 1609 (Cond.code mX6_rankOf.2.1 mX6_rankOf.2.2.1 mX6_rankOf.2.2.2.1 mX6_rankOf.2.2.2.2.1) = true := by decide +kernel
theorem kaX6_rankOf : rX6_rankOf.all (q_rck q_mt 438 mX6_rankOf) = true := by decide +kernel
theorem kX6_rankOf : q_mok q_mt 438 mX6_rankOf := ⟨by decide +kernel, rfl, q_in_mem kcX6_rankOf, Nat.le_of_ble_eq_true rfl, kaX6_rankOf⟩
theorem kcX6_isAhead : q_in 1613 (Cond.code mX6_isAhead.2.1 mX6_isAhead.2.2.1 mX6_isAhead.2.2.2.1 mX6_isAhead.2.2.2.2.1) = true := by decide +kernel
theorem kaX6_isAhead : rX6_isAhead.all (q_rck q_mt 438 mX6_isAhead) = true := by decide +kernel
theorem kX6_isAhead : q_mok q_mt 438 mX6_isAhead := ⟨by decide +kernel, rfl, q_in_mem kcX6_isAhead, Nat.le_of_ble_eq_true rfl, kaX6_isAhead⟩
theorem kcX6_standingOf : q_in 1617 (Cond.code mX6_standingOf.2.1 mX6_standingOf.2.2.1 mX6_standingOf.2.2.2.1 mX6_standingOf.2.2.2.2.1) = true := by decide +kernel
theorem kaX6_standingOf : rX6_standingOf.all (q_rck q_mt 438 mX6_standingOf) = true := by decide +kernel
theorem kX6_standingOf : q_mok q_mt 438 mX6_standingOf := ⟨by decide +kernel, rfl, q_in_mem kcX6_standingOf, Nat.le_of_ble_eq_true rfl, kaX6_standingOf⟩
theorem kcX6_entrantAt : q_in 1625 (Cond.code mX6_entrantAt.2.1 mX6_entrantAt.2.2.1 mX6_entrantAt.2.2.2.1 mX6_entrantAt.2.2.2.2.1) = true := by decide +kernel
theorem kaX6_entrantAt : rX6_entrantAt.all (q_rck q_mt 438 mX6_entrantAt) = true := by decide +kernel
theorem kX6_entrantAt : q_mok q_mt 438 mX6_entrantAt := ⟨by decide +kernel, rfl, q_in_mem kcX6_entrantAt, Nat.le_of_ble_eq_true rfl, kaX6_entrantAt⟩
theorem kcX7_init : q_in 717 (Cond.code mX7_init.2.1 mX7_init.2.2.1 mX7_init.2.2.2.1 mX7_init.2.2.2.2.1) = true := by decide +kernel
theorem kaX7_init : rX7_init.all (q_rck q_mt 438 mX7_init) = true := by decide +kernel
theorem kX7_init : q_mok q_mt 438 mX7_init := ⟨by decide +kernel, rfl, q_in_mem kcX7_init, Nat.le_of_ble_eq_true rfl, kaX7_init⟩
theorem kcX7_readAll : q_in 1143 (Cond.code mX7_readAll.2.1 mX7_readAll.2.2.1 mX7_readAll.2.2.2.1 mX7_readAll.2.2.2.2.1) = true := by decide +kernel
theorem kaX7_readAll : rX7_readAll.all (q_rck q_mt 438 mX7_readAll) = true := by decide +kernel
theorem kX7_readAll : q_mok q_mt 438 mX7_readAll := ⟨by decide +kernel, rfl, q_in_mem kcX7_readAll, Nat.le_of_ble_eq_true rfl, kaX7_readAll⟩
theorem kcX7_mayBegin : q_in 1148 (Cond.code mX7_mayBegin.2.1 mX7_mayBegin.2.2.1 mX7_mayBegin.2.2.2.1 mX7_mayBegin.2.2.2.2.1) = true := by decide +kernel
theorem kaX7_mayBegin : rX7_mayBegin.all (q_rck q_mt 438 mX7_mayBegin) = true := by decide +kernel
theorem kX7_mayBegin : q_mok q_mt 438 mX7_mayBegin := ⟨by decide +kernel, rfl, q_in_mem kcX7_mayBegin, Nat.le_of_ble_eq_true rfl, kaX7_mayBegin⟩
theorem kcX7_isAct : q_in 1151 (Cond.code mX7_isAct.2.1 mX7_isAct.2.2.1 mX7_isAct.2.2.2.1 mX7_isAct.2.2.2.2.1) = true := by decide +kernel
theorem kaX7_isAct : rX7_isAct.all (q_rck q_mt 438 mX7_isAct) = true := by decide +kernel
theorem kX7_isAct : q_mok q_mt 438 mX7_isAct := ⟨by decide +kernel, rfl, q_in_mem kcX7_isAct, Nat.le_of_ble_eq_true rfl, kaX7_isAct⟩
theorem kcX7_readAct : q_in 1156 (Cond.code mX7_readAct.2.1 mX7_readAct.2.2.1 mX7_readAct.2.2.2.1 mX7_readAct.2.2.2.2.1) = true := by decide +kernel
theorem kaX7_readAct : rX7_readAct.all (q_rck q_mt 438 mX7_readAct) = true := by decide +kernel
theorem kX7_readAct : q_mok q_mt 438 mX7_readAct := ⟨by decide +kernel, rfl, q_in_mem kcX7_readAct, Nat.le_of_ble_eq_true rfl, kaX7_readAct⟩
theorem kcX7_readMarks : q_in 1161 (Cond.code mX7_readMarks.2.1 mX7_readMarks.2.2.1 mX7_readMarks.2.2.2.1 mX7_readMarks.2.2.2.2.1) = true := by decide +kernel
theorem kaX7_readMarks : rX7_readMarks.all (q_rck q_mt 438 mX7_readMarks) = true := by decide +kernel
theorem kX7_readMarks : q_mok q_mt 438 mX7_readMarks := ⟨by decide +kernel, rfl, q_in_mem kcX7_readMarks, Nat.le_of_ble_eq_true rfl, kaX7_readMarks⟩
theorem kcX7_readAward : q_in 1166 (Cond.code mX7_readAward.2.1 mX7_readAward.2.2.1 mX7_readAward.2.2.2.1 mX7_readAward.2.2.2.2.1) = true := by decide +kernel
theorem kaX7_readAward : rX7_readAward.all (q_rck q_mt 438 mX7_readAward) = true := by decide +kernel
theorem kX7_readAward : q_mok q_mt 438 mX7_readAward := ⟨by decide +kernel, rfl, q_in_mem kcX7_readAward, Nat.le_of_ble_eq_true rfl, kaX7_readAward⟩
theorem kcX7_readHalf : q_in 1170 (Cond.code mX7_readHalf.2.1 mX7_readHalf.2.2.1 mX7_readHalf.2.2.2.1 mX7_readHalf.2.2.2.2.1) = true := by decide +kernel
theorem kaX7_readHalf : rX7_readHalf.all (q_rck q_mt 438 mX7_readHalf) = true := by decide +kernel
theorem kX7_readHalf : q_mok q_mt 438 mX7_readHalf := ⟨by decide +kernel, rfl, q_in_mem kcX7_readHalf, Nat.le_of_ble_eq_true rfl, kaX7_readHalf⟩
theorem kcX7_readOut : q_in 1175 (Cond.code mX7_readOut.2.1 mX7_readOut.2.2.1 mX7_readOut.2.2.2.1 mX7_readOut.2.2.2.2.1) = true := by decide +kernel
theorem kaX7_readOut : rX7_readOut.all (q_rck q_mt 438 mX7_readOut) = true := by decide +kernel
theorem kX7_readOut : q_mok q_mt 438 mX7_readOut := ⟨by decide +kernel, rfl, q_in_mem kcX7_readOut, Nat.le_of_ble_eq_true rfl, kaX7_readOut⟩
theorem kcX7_readTimes : q_in 1180 (Cond.code mX7_readTimes.2.1 mX7_readTimes.2.2.1 mX7_readTimes.2.2.2.1 mX7_readTimes.2.2.2.2.1) = true := by decide +kernel
theorem kaX7_readTimes : rX7_readTimes.all (q_rck q_mt 438 mX7_readTimes) = true := by decide +kernel
theorem kX7_readTimes : q_mok q_mt 438 mX7_readTimes := ⟨by decide +kernel, rfl, q_in_mem kcX7_readTimes, Nat.le_of_ble_eq_true rfl, kaX7_readTimes⟩
theorem kcX7_runAll : q_in 1194 (Cond.code mX7_runAll.2.1 mX7_runAll.2.2.1 mX7_runAll.2.2.2.1 mX7_runAll.2.2.2.2.1) = true := by decide +kernel
theorem kaX7_runAll : rX7_runAll.all (q_rck q_mt 438 mX7_runAll) = true := by decide +kernel
theorem kX7_runAll : q_mok q_mt 438 mX7_runAll := ⟨by decide +kernel, rfl, q_in_mem kcX7_runAll, Nat.le_of_ble_eq_true rfl, kaX7_runAll⟩
theorem kcX7_runAct : q_in 1198 (Cond.code mX7_runAct.2.1 mX7_runAct.2.2.1 mX7_runAct.2.2.2.1 mX7_runAct.2.2.2.2.1) = true := by decide +kernel
theorem kaX7_runAct : rX7_runAct.all (q_rck q_mt 438 mX7_runAct) = true := by decide +kernel
theorem kX7_runAct : q_mok q_mt 438 mX7_runAct := ⟨by decide +kernel, rfl, q_in_mem kcX7_runAct, Nat.le_of_ble_eq_true rfl, kaX7_runAct⟩
theorem kcX8_init : q_in 523 (Cond.code mX8_init.2.1 mX8_init.2.2.1 mX8_init.2.2.2.1 mX8_init.2.2.2.2.1) = true := by decide +kernel
theorem kaX8_init : rX8_init.all (q_rck q_mt 438 mX8_init) = true := by decide +kernel
theorem kX8_init : q_mok q_mt 438 mX8_init := ⟨by decide +kernel, rfl, q_in_mem kcX8_init, Nat.le_of_ble_eq_true rfl, kaX8_init⟩
