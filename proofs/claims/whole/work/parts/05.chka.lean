/-! the rows are the code, the sites are the tables' (part 0) -/
theorem kcX0_init : q_in 590 (Cond.code mX0_init.2.1 mX0_init.2.2.1 mX0_init.2.2.2.1 mX0_init.2.2.2.2.1) = true := by decide +kernel
theorem kaX0_init : rX0_init.all (q_rck q_mt 438 mX0_init) = true := by decide +kernel
theorem kX0_init : q_mok q_mt 438 mX0_init := ⟨by decide +kernel, rfl, q_in_mem kcX0_init, Nat.le_of_ble_eq_true rfl, kaX0_init⟩
theorem kcX0_forget : q_in 1086 (Cond.code mX0_forget.2.1 mX0_forget.2.2.1 mX0_forget.2.2.2.1 mX0_forget.2.2.2.2.1) = true := by decide +kernel
theorem kaX0_forget : rX0_forget.all (q_rck q_mt 438 mX0_forget) = true := by decide +kernel
theorem kX0_forget : q_mok q_mt 438 mX0_forget := ⟨by decide +kernel, rfl, q_in_mem kcX0_forget, Nat.le_of_ble_eq_true rfl, kaX0_forget⟩
theorem kcX0_note : q_in 1185 (Cond.code mX0_note.2.1 mX0_note.2.2.1 mX0_note.2.2.2.1 mX0_note.2.2.2.2.1) = true := by decide +kernel
theorem kaX0_note : rX0_note.all (q_rck q_mt 438 mX0_note) = true := by decide +kernel
theorem kX0_note : q_mok q_mt 438 mX0_note := ⟨by decide +kernel, rfl, q_in_mem kcX0_note, Nat.le_of_ble_eq_true rfl, kaX0_note⟩
theorem kcX0_restore : q_in 1304 (Cond.code mX0_restore.2.1 mX0_restore.2.2.1 mX0_restore.2.2.2.1 mX0_restore.2.2.2.2.1) = true := by decide +kernel
theorem kaX0_restore : rX0_restore.all (q_rck q_mt 438 mX0_restore) = true := by decide +kernel
theorem kX0_restore : q_mok q_mt 438 mX0_restore := ⟨by decide +kernel, rfl, q_in_mem kcX0_restore, Nat.le_of_ble_eq_true rfl, kaX0_restore⟩
theorem kcX0_commit : q_in 1308 (Cond.code mX0_commit.2.1 mX0_commit.2.2.1 mX0_commit.2.2.2.1 mX0_commit.2.2.2.2.1) = true := by decide +kernel
theorem kaX0_commit : rX0_commit.all (q_rck q_mt 438 mX0_commit) = true := by decide +kernel
theorem kX0_commit : q_mok q_mt 438 mX0_commit := ⟨by decide +kernel, rfl, q_in_mem kcX0_commit, Nat.le_of_ble_eq_true rfl, kaX0_commit⟩
theorem kcX0_takeBack : q_in 1562 (Cond.code mX0_takeBack.2.1 mX0_takeBack.2.2.1 mX0_takeBack.2.2.2.1 mX0_takeBack.2.2.2.2.1) = true := by decide +kernel
theorem kaX0_takeBack : rX0_takeBack.all (q_rck q_mt 438 mX0_takeBack) = true := by decide +kernel
theorem kX0_takeBack : q_mok q_mt 438 mX0_takeBack := ⟨by decide +kernel, rfl, q_in_mem kcX0_takeBack, Nat.le_of_ble_eq_true rfl, kaX0_takeBack⟩
theorem kcX1_init : q_in 355 (Cond.code mX1_init.2.1 mX1_init.2.2.1 mX1_init.2.2.2.1 mX1_init.2.2.2.2.1) = true := by decide +kernel
theorem kaX1_init : rX1_init.all (q_rck q_mt 438 mX1_init) = true := by decide +kernel
theorem kX1_init : q_mok q_mt 438 mX1_init := ⟨by decide +kernel, rfl, q_in_mem kcX1_init, Nat.le_of_ble_eq_true rfl, kaX1_init⟩
theorem kcX1_clear : q_in 898 (Cond.code mX1_clear.2.1 mX1_clear.2.2.1 mX1_clear.2.2.2.1 mX1_clear.2.2.2.2.1) = true := by decide +kernel
theorem kaX1_clear : rX1_clear.all (q_rck q_mt 438 mX1_clear) = true := by decide +kernel
theorem kX1_clear : q_mok q_mt 438 mX1_clear := ⟨by decide +kernel, rfl, q_in_mem kcX1_clear, Nat.le_of_ble_eq_true rfl, kaX1_clear⟩
theorem kcX1_copyFrom : q_in 1081 (Cond.code mX1_copyFrom.2.1 mX1_copyFrom.2.2.1 mX1_copyFrom.2.2.2.1 mX1_copyFrom.2.2.2.2.1) = true := by decide +kernel
theorem kaX1_copyFrom : rX1_copyFrom.all (q_rck q_mt 438 mX1_copyFrom) = true := by decide +kernel
theorem kX1_copyFrom : q_mok q_mt 438 mX1_copyFrom := ⟨by decide +kernel, rfl, q_in_mem kcX1_copyFrom, Nat.le_of_ble_eq_true rfl, kaX1_copyFrom⟩
theorem kcX1_open : q_in 999 (Cond.code mX1_open.2.1 mX1_open.2.2.1 mX1_open.2.2.2.1 mX1_open.2.2.2.2.1) = true := by decide +kernel
theorem kaX1_open : rX1_open.all (q_rck q_mt 438 mX1_open) = true := by decide +kernel
theorem kX1_open : q_mok q_mt 438 mX1_open := ⟨by decide +kernel, rfl, q_in_mem kcX1_open, Nat.le_of_ble_eq_true rfl, kaX1_open⟩
theorem kcX1_write : q_in 1028 (Cond.code mX1_write.2.1 mX1_write.2.2.1 mX1_write.2.2.2.1 mX1_write.2.2.2.2.1) = true := by decide +kernel
theorem kaX1_write : rX1_write.all (q_rck q_mt 438 mX1_write) = true := by decide +kernel
theorem kX1_write : q_mok q_mt 438 mX1_write := ⟨by decide +kernel, rfl, q_in_mem kcX1_write, Nat.le_of_ble_eq_true rfl, kaX1_write⟩
theorem kcX1_readTest : q_in 1003 (Cond.code mX1_readTest.2.1 mX1_readTest.2.2.1 mX1_readTest.2.2.2.1 mX1_readTest.2.2.2.2.1) = true := by decide +kernel
theorem kaX1_readTest : rX1_readTest.all (q_rck q_mt 438 mX1_readTest) = true := by decide +kernel
theorem kX1_readTest : q_mok q_mt 438 mX1_readTest := ⟨by decide +kernel, rfl, q_in_mem kcX1_readTest, Nat.le_of_ble_eq_true rfl, kaX1_readTest⟩
theorem kcX1_readBoth : q_in 1007 (Cond.code mX1_readBoth.2.1 mX1_readBoth.2.2.1 mX1_readBoth.2.2.2.1 mX1_readBoth.2.2.2.2.1) = true := by decide +kernel
theorem kaX1_readBoth : rX1_readBoth.all (q_rck q_mt 438 mX1_readBoth) = true := by decide +kernel
theorem kX1_readBoth : q_mok q_mt 438 mX1_readBoth := ⟨by decide +kernel, rfl, q_in_mem kcX1_readBoth, Nat.le_of_ble_eq_true rfl, kaX1_readBoth⟩
theorem kcX1_readFact : q_in 1011 (Cond.code mX1_readFact.2.1 mX1_readFact.2.2.1 mX1_readFact.2.2.2.1 mX1_readFact.2.2.2.2.1) = true := by decide +kernel
theorem kaX1_readFact : rX1_readFact.all (q_rck q_mt 438 mX1_readFact) = true := by decide +kernel
theorem kX1_readFact : q_mok q_mt 438 mX1_readFact := ⟨by decide +kernel, rfl, q_in_mem kcX1_readFact, Nat.le_of_ble_eq_true rfl, kaX1_readFact⟩
theorem kcX1_readSum : q_in 1032 (Cond.code mX1_readSum.2.1 mX1_readSum.2.2.1 mX1_readSum.2.2.2.1 mX1_readSum.2.2.2.2.1) = true := by decide +kernel
theorem kaX1_readSum : rX1_readSum.all (q_rck q_mt 438 mX1_readSum) = true := by decide +kernel
theorem kX1_readSum : q_mok q_mt 438 mX1_readSum := ⟨by decide +kernel, rfl, q_in_mem kcX1_readSum, Nat.le_of_ble_eq_true rfl, kaX1_readSum⟩
theorem kcX1_readTerm : q_in 1036 (Cond.code mX1_readTerm.2.1 mX1_readTerm.2.2.1 mX1_readTerm.2.2.2.1 mX1_readTerm.2.2.2.2.1) = true := by decide +kernel
theorem kaX1_readTerm : rX1_readTerm.all (q_rck q_mt 438 mX1_readTerm) = true := by decide +kernel
theorem kX1_readTerm : q_mok q_mt 438 mX1_readTerm := ⟨by decide +kernel, rfl, q_in_mem kcX1_readTerm, Nat.le_of_ble_eq_true rfl, kaX1_readTerm⟩
theorem kcX1_isFactorSign : q_in 1049 (Cond.code mX1_isFactorSign.2.1 mX1_isFactorSign.2.2.1 mX1_isFactorSign.2.2.2.1 mX1_isFactorSign.2.2.2.2.1) = true := by decide +kernel
theorem kaX1_isFactorSign : rX1_isFactorSign.all (q_rck q_mt 438 mX1_isFactorSign) = true := by decide +kernel
theorem kX1_isFactorSign : q_mok q_mt 438 mX1_isFactorSign := ⟨by decide +kernel, rfl, q_in_mem kcX1_isFactorSign, Nat.le_of_ble_eq_true rfl, kaX1_isFactorSign⟩
theorem kcX1_readValue : q_in 1040 (Cond.code mX1_readValue.2.1 mX1_readValue.2.2.1 mX1_readValue.2.2.2.1 mX1_readValue.2.2.2.2.1) = true := by decide +kernel
theorem kaX1_readValue : rX1_readValue.all (q_rck q_mt 438 mX1_readValue) = true := by decide +kernel
theorem kX1_readValue : q_mok q_mt 438 mX1_readValue := ⟨by decide +kernel, rfl, q_in_mem kcX1_readValue, Nat.le_of_ble_eq_true rfl, kaX1_readValue⟩
theorem kcX1_stepOfValue : q_in 1043 (Cond.code mX1_stepOfValue.2.1 mX1_stepOfValue.2.2.1 mX1_stepOfValue.2.2.2.1 mX1_stepOfValue.2.2.2.2.1) = true := by decide +kernel
theorem kaX1_stepOfValue : rX1_stepOfValue.all (q_rck q_mt 438 mX1_stepOfValue) = true := by decide +kernel
theorem kX1_stepOfValue : q_mok q_mt 438 mX1_stepOfValue := ⟨by decide +kernel, rfl, q_in_mem kcX1_stepOfValue, Nat.le_of_ble_eq_true rfl, kaX1_stepOfValue⟩
theorem kcX1_factOfWord : q_in 1046 (Cond.code mX1_factOfWord.2.1 mX1_factOfWord.2.2.1 mX1_factOfWord.2.2.2.1 mX1_factOfWord.2.2.2.2.1) = true := by decide +kernel
theorem kaX1_factOfWord : rX1_factOfWord.all (q_rck q_mt 438 mX1_factOfWord) = true := by decide +kernel
theorem kX1_factOfWord : q_mok q_mt 438 mX1_factOfWord := ⟨by decide +kernel, rfl, q_in_mem kcX1_factOfWord, Nat.le_of_ble_eq_true rfl, kaX1_factOfWord⟩
theorem kcX1_isSo : q_in 1396 (Cond.code mX1_isSo.2.1 mX1_isSo.2.2.1 mX1_isSo.2.2.2.1 mX1_isSo.2.2.2.2.1) = true := by decide +kernel
theorem kaX1_isSo : rX1_isSo.all (q_rck q_mt 438 mX1_isSo) = true := by decide +kernel
theorem kX1_isSo : q_mok q_mt 438 mX1_isSo := ⟨by decide +kernel, rfl, q_in_mem kcX1_isSo, Nat.le_of_ble_eq_true rfl, kaX1_isSo⟩
theorem kcX1_join : q_in 1399 (Cond.code mX1_join.2.1 mX1_join.2.2.1 mX1_join.2.2.2.1 mX1_join.2.2.2.2.1) = true := by decide +kernel
theorem kaX1_join : rX1_join.all (q_rck q_mt 438 mX1_join) = true := by decide +kernel
theorem kX1_join : q_mok q_mt 438 mX1_join := ⟨by decide +kernel, rfl, q_in_mem kcX1_join, Nat.le_of_ble_eq_true rfl, kaX1_join⟩
theorem kcX2_init : q_in 349 (Cond.code mX2_init.2.1 mX2_init.2.2.1 mX2_init.2.2.2.1 mX2_init.2.2.2.2.1) = true := by decide +kernel
theorem kaX2_init : rX2_init.all (q_rck q_mt 438 mX2_init) = true := by decide +kernel
theorem kX2_init : q_mok q_mt 438 mX2_init := ⟨by decide +kernel, rfl, q_in_mem kcX2_init, Nat.le_of_ble_eq_true rfl, kaX2_init⟩
theorem kcX2_clear : q_in 894 (Cond.code mX2_clear.2.1 mX2_clear.2.2.1 mX2_clear.2.2.2.1 mX2_clear.2.2.2.2.1) = true := by decide +kernel
theorem kaX2_clear : rX2_clear.all (q_rck q_mt 438 mX2_clear) = true := by decide +kernel
theorem kX2_clear : q_mok q_mt 438 mX2_clear := ⟨by decide +kernel, rfl, q_in_mem kcX2_clear, Nat.le_of_ble_eq_true rfl, kaX2_clear⟩
theorem kcX2_copyFrom : q_in 1074 (Cond.code mX2_copyFrom.2.1 mX2_copyFrom.2.2.1 mX2_copyFrom.2.2.2.1 mX2_copyFrom.2.2.2.2.1) = true := by decide +kernel
theorem kaX2_copyFrom : rX2_copyFrom.all (q_rck q_mt 438 mX2_copyFrom) = true := by decide +kernel
theorem kX2_copyFrom : q_mok q_mt 438 mX2_copyFrom := ⟨by decide +kernel, rfl, q_in_mem kcX2_copyFrom, Nat.le_of_ble_eq_true rfl, kaX2_copyFrom⟩
theorem kcX2_hasJudge : q_in 1353 (Cond.code mX2_hasJudge.2.1 mX2_hasJudge.2.2.1 mX2_hasJudge.2.2.2.1 mX2_hasJudge.2.2.2.2.1) = true := by decide +kernel
theorem kaX2_hasJudge : rX2_hasJudge.all (q_rck q_mt 438 mX2_hasJudge) = true := by decide +kernel
theorem kX2_hasJudge : q_mok q_mt 438 mX2_hasJudge := ⟨by decide +kernel, rfl, q_in_mem kcX2_hasJudge, Nat.le_of_ble_eq_true rfl, kaX2_hasJudge⟩
theorem kcX2_hasDive : q_in 1263 (Cond.code mX2_hasDive.2.1 mX2_hasDive.2.2.1 mX2_hasDive.2.2.2.1 mX2_hasDive.2.2.2.2.1) = true := by decide +kernel
theorem kaX2_hasDive : rX2_hasDive.all (q_rck q_mt 438 mX2_hasDive) = true := by decide +kernel
theorem kX2_hasDive : q_mok q_mt 438 mX2_hasDive := ⟨by decide +kernel, rfl, q_in_mem kcX2_hasDive, Nat.le_of_ble_eq_true rfl, kaX2_hasDive⟩
theorem kcX2_hasEntrant : q_in 1345 (Cond.code mX2_hasEntrant.2.1 mX2_hasEntrant.2.2.1 mX2_hasEntrant.2.2.2.1 mX2_hasEntrant.2.2.2.2.1) = true := by decide +kernel
theorem kaX2_hasEntrant : rX2_hasEntrant.all (q_rck q_mt 438 mX2_hasEntrant) = true := by decide +kernel
theorem kX2_hasEntrant : q_mok q_mt 438 mX2_hasEntrant := ⟨by decide +kernel, rfl, q_in_mem kcX2_hasEntrant, Nat.le_of_ble_eq_true rfl, kaX2_hasEntrant⟩
theorem kcX2_hasRound : q_in 1365 (Cond.code mX2_hasRound.2.1 mX2_hasRound.2.2.1 mX2_hasRound.2.2.2.1 mX2_hasRound.2.2.2.2.1) = true := by decide +kernel
theorem kaX2_hasRound : rX2_hasRound.all (q_rck q_mt 438 mX2_hasRound) = true := by decide +kernel
theorem kX2_hasRound : q_mok q_mt 438 mX2_hasRound := ⟨by decide +kernel, rfl, q_in_mem kcX2_hasRound, Nat.le_of_ble_eq_true rfl, kaX2_hasRound⟩
theorem kcX2_findDive : q_in 971 (Cond.code mX2_findDive.2.1 mX2_findDive.2.2.1 mX2_findDive.2.2.2.1 mX2_findDive.2.2.2.2.1) = true := by decide +kernel
theorem kaX2_findDive : rX2_findDive.all (q_rck q_mt 438 mX2_findDive) = true := by decide +kernel
theorem kX2_findDive : q_mok q_mt 438 mX2_findDive := ⟨by decide +kernel, rfl, q_in_mem kcX2_findDive, Nat.le_of_ble_eq_true rfl, kaX2_findDive⟩
theorem kcX2_findEntrant : q_in 975 (Cond.code mX2_findEntrant.2.1 mX2_findEntrant.2.2.1 mX2_findEntrant.2.2.2.1 mX2_findEntrant.2.2.2.2.1) = true := by decide +kernel
theorem kaX2_findEntrant : rX2_findEntrant.all (q_rck q_mt 438 mX2_findEntrant) = true := by decide +kernel
theorem kX2_findEntrant : q_mok q_mt 438 mX2_findEntrant := ⟨by decide +kernel, rfl, q_in_mem kcX2_findEntrant, Nat.le_of_ble_eq_true rfl, kaX2_findEntrant⟩
theorem kcX2_isOnPanel : q_in 1218 (Cond.code mX2_isOnPanel.2.1 mX2_isOnPanel.2.2.1 mX2_isOnPanel.2.2.2.1 mX2_isOnPanel.2.2.2.2.1) = true := by decide +kernel
theorem kaX2_isOnPanel : rX2_isOnPanel.all (q_rck q_mt 438 mX2_isOnPanel) = true := by decide +kernel
theorem kX2_isOnPanel : q_mok q_mt 438 mX2_isOnPanel := ⟨by decide +kernel, rfl, q_in_mem kcX2_isOnPanel, Nat.le_of_ble_eq_true rfl, kaX2_isOnPanel⟩
theorem kcX2_countPanel : q_in 1214 (Cond.code mX2_countPanel.2.1 mX2_countPanel.2.2.1 mX2_countPanel.2.2.2.1 mX2_countPanel.2.2.2.2.1) = true := by decide +kernel
theorem kaX2_countPanel : rX2_countPanel.all (q_rck q_mt 438 mX2_countPanel) = true := by decide +kernel
theorem kX2_countPanel : q_mok q_mt 438 mX2_countPanel := ⟨by decide +kernel, rfl, q_in_mem kcX2_countPanel, Nat.le_of_ble_eq_true rfl, kaX2_countPanel⟩
theorem kcX2_countSort : q_in 1066 (Cond.code mX2_countSort.2.1 mX2_countSort.2.2.1 mX2_countSort.2.2.2.1 mX2_countSort.2.2.2.2.1) = true := by decide +kernel
theorem kaX2_countSort : rX2_countSort.all (q_rck q_mt 438 mX2_countSort) = true := by decide +kernel
theorem kX2_countSort : q_mok q_mt 438 mX2_countSort := ⟨by decide +kernel, rfl, q_in_mem kcX2_countSort, Nat.le_of_ble_eq_true rfl, kaX2_countSort⟩
theorem kcX2_awardByForm : q_in 1469 (Cond.code mX2_awardByForm.2.1 mX2_awardByForm.2.2.1 mX2_awardByForm.2.2.2.1 mX2_awardByForm.2.2.2.2.1) = true := by decide +kernel
theorem kaX2_awardByForm : rX2_awardByForm.all (q_rck q_mt 438 mX2_awardByForm) = true := by decide +kernel
theorem kX2_awardByForm : q_mok q_mt 438 mX2_awardByForm := ⟨by decide +kernel, rfl, q_in_mem kcX2_awardByForm, Nat.le_of_ble_eq_true rfl, kaX2_awardByForm⟩
theorem kcX2_pointsAlike : q_in 1475 (Cond.code mX2_pointsAlike.2.1 mX2_pointsAlike.2.2.1 mX2_pointsAlike.2.2.2.1 mX2_pointsAlike.2.2.2.2.1) = true := by decide +kernel
theorem kaX2_pointsAlike : rX2_pointsAlike.all (q_rck q_mt 438 mX2_pointsAlike) = true := by decide +kernel
theorem kX2_pointsAlike : q_mok q_mt 438 mX2_pointsAlike := ⟨by decide +kernel, rfl, q_in_mem kcX2_pointsAlike, Nat.le_of_ble_eq_true rfl, kaX2_pointsAlike⟩
theorem kcX2_pointsByForm : q_in 1465 (Cond.code mX2_pointsByForm.2.1 mX2_pointsByForm.2.2.1 mX2_pointsByForm.2.2.2.1 mX2_pointsByForm.2.2.2.2.1) = true := by decide +kernel
theorem kaX2_pointsByForm : rX2_pointsByForm.all (q_rck q_mt 438 mX2_pointsByForm) = true := by decide +kernel
theorem kX2_pointsByForm : q_mok q_mt 438 mX2_pointsByForm := ⟨by decide +kernel, rfl, q_in_mem kcX2_pointsByForm, Nat.le_of_ble_eq_true rfl, kaX2_pointsByForm⟩
theorem kcX2_findCutBehind : q_in 1115 (Cond.code mX2_findCutBehind.2.1 mX2_findCutBehind.2.2.1 mX2_findCutBehind.2.2.2.1 mX2_findCutBehind.2.2.2.2.1) = true := by decide +kernel
theorem kaX2_findCutBehind : rX2_findCutBehind.all (q_rck q_mt 438 mX2_findCutBehind) = true := by decide +kernel
theorem kX2_findCutBehind : q_mok q_mt 438 mX2_findCutBehind := ⟨by decide +kernel, rfl, q_in_mem kcX2_findCutBehind, Nat.le_of_ble_eq_true rfl, kaX2_findCutBehind⟩
theorem kcX3_init : q_in 510 (Cond.code mX3_init.2.1 mX3_init.2.2.1 mX3_init.2.2.2.1 mX3_init.2.2.2.2.1) = true := by decide +kernel
theorem kaX3_init : rX3_init.all (q_rck q_mt 438 mX3_init) = true := by decide +kernel
theorem kX3_init : q_mok q_mt 438 mX3_init := ⟨by decide +kernel, rfl, q_in_mem kcX3_init, Nat.le_of_ble_eq_true rfl, kaX3_init⟩
theorem kcX3_readAll : q_in 890 (Cond.code mX3_readAll.2.1 mX3_readAll.2.2.1 mX3_readAll.2.2.2.1 mX3_readAll.2.2.2.2.1) = true := by decide +kernel
theorem kaX3_readAll : rX3_readAll.all (q_rck q_mt 438 mX3_readAll) = true := by decide +kernel
theorem kX3_readAll : q_mok q_mt 438 mX3_readAll := ⟨by decide +kernel, rfl, q_in_mem kcX3_readAll, Nat.le_of_ble_eq_true rfl, kaX3_readAll⟩
