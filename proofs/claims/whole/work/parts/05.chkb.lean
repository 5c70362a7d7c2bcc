/-! the rows are the code, the sites are the tables' (part 1) -/
theorem kcX3_mayBegin : q_in 921 (Cond.code mX3_mayBegin.2.1 mX3_mayBegin.2.2.1 mX3_mayBegin.2.2.2.1 mX3_mayBegin.2.2.2.2.1) = true := by decide +kernel
theorem kaX3_mayBegin : rX3_mayBegin.all (q_rck q_mt 438 mX3_mayBegin) = true := by decide +kernel
theorem kX3_mayBegin : q_mok q_mt 438 mX3_mayBegin := ⟨by decide +kernel, rfl, q_in_mem kcX3_mayBegin, Nat.le_of_ble_eq_true rfl, kaX3_mayBegin⟩
theorem kcX3_isBegin : q_in 924 (Cond.code mX3_isBegin.2.1 mX3_isBegin.2.2.1 mX3_isBegin.2.2.2.1 mX3_isBegin.2.2.2.2.1) = true := by decide +kernel
theorem kaX3_isBegin : rX3_isBegin.all (q_rck q_mt 438 mX3_isBegin) = true := by decide +kernel
theorem kX3_isBegin : q_mok q_mt 438 mX3_isBegin := ⟨by decide +kernel, rfl, q_in_mem kcX3_isBegin, Nat.le_of_ble_eq_true rfl, kaX3_isBegin⟩
theorem kcX3_isFull : q_in 932 (Cond.code mX3_isFull.2.1 mX3_isFull.2.2.1 mX3_isFull.2.2.2.1 mX3_isFull.2.2.2.2.1) = true := by decide +kernel
theorem kaX3_isFull : rX3_isFull.all (q_rck q_mt 438 mX3_isFull) = true := by decide +kernel
theorem kX3_isFull : q_mok q_mt 438 mX3_isFull := ⟨by decide +kernel, rfl, q_in_mem kcX3_isFull, Nat.le_of_ble_eq_true rfl, kaX3_isFull⟩
theorem kcX3_readStatement : q_in 936 (Cond.code mX3_readStatement.2.1 mX3_readStatement.2.2.1 mX3_readStatement.2.2.2.1 mX3_readStatement.2.2.2.2.1) = true := by decide +kernel
theorem kaX3_readStatement : rX3_readStatement.all (q_rck q_mt 438 mX3_readStatement) = true := by decide +kernel
theorem kX3_readStatement : q_mok q_mt 438 mX3_readStatement := ⟨by decide +kernel, rfl, q_in_mem kcX3_readStatement, Nat.le_of_ble_eq_true rfl, kaX3_readStatement⟩
theorem kcX3_readRounds : q_in 941 (Cond.code mX3_readRounds.2.1 mX3_readRounds.2.2.1 mX3_readRounds.2.2.2.1 mX3_readRounds.2.2.2.2.1) = true := by decide +kernel
theorem kaX3_readRounds : rX3_readRounds.all (q_rck q_mt 438 mX3_readRounds) = true := by decide +kernel
theorem kX3_readRounds : q_mok q_mt 438 mX3_readRounds := ⟨by decide +kernel, rfl, q_in_mem kcX3_readRounds, Nat.le_of_ble_eq_true rfl, kaX3_readRounds⟩
theorem kcX3_readJudge : q_in 958 (Cond.code mX3_readJudge.2.1 mX3_readJudge.2.2.1 mX3_readJudge.2.2.2.1 mX3_readJudge.2.2.2.2.1) = true := by decide +kernel
theorem kaX3_readJudge : rX3_readJudge.all (q_rck q_mt 438 mX3_readJudge) = true := by decide +kernel
theorem kX3_readJudge : q_mok q_mt 438 mX3_readJudge := ⟨by decide +kernel, rfl, q_in_mem kcX3_readJudge, Nat.le_of_ble_eq_true rfl, kaX3_readJudge⟩
theorem kcX3_takeNewName : q_in 967 (Cond.code mX3_takeNewName.2.1 mX3_takeNewName.2.2.1 mX3_takeNewName.2.2.2.1 mX3_takeNewName.2.2.2.2.1) = true := by decide +kernel
theorem kaX3_takeNewName : rX3_takeNewName.all (q_rck q_mt 438 mX3_takeNewName) = true := by decide +kernel
theorem kX3_takeNewName : q_mok q_mt 438 mX3_takeNewName := ⟨by decide +kernel, rfl, q_in_mem kcX3_takeNewName, Nat.le_of_ble_eq_true rfl, kaX3_takeNewName⟩
theorem kcX3_readDive : q_in 963 (Cond.code mX3_readDive.2.1 mX3_readDive.2.2.1 mX3_readDive.2.2.2.1 mX3_readDive.2.2.2.2.1) = true := by decide +kernel
theorem kaX3_readDive : rX3_readDive.all (q_rck q_mt 438 mX3_readDive) = true := by decide +kernel
theorem kX3_readDive : q_mok q_mt 438 mX3_readDive := ⟨by decide +kernel, rfl, q_in_mem kcX3_readDive, Nat.le_of_ble_eq_true rfl, kaX3_readDive⟩
theorem kcX3_readEntrant : q_in 979 (Cond.code mX3_readEntrant.2.1 mX3_readEntrant.2.2.1 mX3_readEntrant.2.2.2.1 mX3_readEntrant.2.2.2.2.1) = true := by decide +kernel
theorem kaX3_readEntrant : rX3_readEntrant.all (q_rck q_mt 438 mX3_readEntrant) = true := by decide +kernel
theorem kX3_readEntrant : q_mok q_mt 438 mX3_readEntrant := ⟨by decide +kernel, rfl, q_in_mem kcX3_readEntrant, Nat.le_of_ble_eq_true rfl, kaX3_readEntrant⟩
theorem kcX3_takeEntrant : q_in 987 (Cond.code mX3_takeEntrant.2.1 mX3_takeEntrant.2.2.1 mX3_takeEntrant.2.2.2.1 mX3_takeEntrant.2.2.2.2.1) = true := by decide +kernel
theorem kaX3_takeEntrant : rX3_takeEntrant.all (q_rck q_mt 438 mX3_takeEntrant) = true := by decide +kernel
theorem kX3_takeEntrant : q_mok q_mt 438 mX3_takeEntrant := ⟨by decide +kernel, rfl, q_in_mem kcX3_takeEntrant, Nat.le_of_ble_eq_true rfl, kaX3_takeEntrant⟩
theorem kcX3_readList : q_in 983 (Cond.code mX3_readList.2.1 mX3_readList.2.2.1 mX3_readList.2.2.2.1 mX3_readList.2.2.2.2.1) = true := by decide +kernel
theorem kaX3_readList : rX3_readList.all (q_rck q_mt 438 mX3_readList) = true := by decide +kernel
theorem kX3_readList : q_mok q_mt 438 mX3_readList := ⟨by decide +kernel, rfl, q_in_mem kcX3_readList, Nat.le_of_ble_eq_true rfl, kaX3_readList⟩
theorem kcX3_isListed : q_in 991 (Cond.code mX3_isListed.2.1 mX3_isListed.2.2.1 mX3_isListed.2.2.2.1 mX3_isListed.2.2.2.2.1) = true := by decide +kernel
theorem kaX3_isListed : rX3_isListed.all (q_rck q_mt 438 mX3_isListed) = true := by decide +kernel
theorem kX3_isListed : q_mok q_mt 438 mX3_isListed := ⟨by decide +kernel, rfl, q_in_mem kcX3_isListed, Nat.le_of_ble_eq_true rfl, kaX3_isListed⟩
theorem kcX3_readForm : q_in 995 (Cond.code mX3_readForm.2.1 mX3_readForm.2.2.1 mX3_readForm.2.2.2.1 mX3_readForm.2.2.2.2.1) = true := by decide +kernel
theorem kaX3_readForm : rX3_readForm.all (q_rck q_mt 438 mX3_readForm) = true := by decide +kernel
theorem kX3_readForm : q_mok q_mt 438 mX3_readForm := ⟨by decide +kernel, rfl, q_in_mem kcX3_readForm, Nat.le_of_ble_eq_true rfl, kaX3_readForm⟩
theorem kcX3_readCut : q_in 1053 (Cond.code mX3_readCut.2.1 mX3_readCut.2.2.1 mX3_readCut.2.2.2.1 mX3_readCut.2.2.2.2.1) = true := by decide +kernel
theorem kaX3_readCut : rX3_readCut.all (q_rck q_mt 438 mX3_readCut) = true := by decide +kernel
theorem kX3_readCut : q_mok q_mt 438 mX3_readCut := ⟨by decide +kernel, rfl, q_in_mem kcX3_readCut, Nat.le_of_ble_eq_true rfl, kaX3_readCut⟩
theorem kcX3_isWhole : q_in 1058 (Cond.code mX3_isWhole.2.1 mX3_isWhole.2.2.1 mX3_isWhole.2.2.2.1 mX3_isWhole.2.2.2.2.1) = true := by decide +kernel
theorem kaX3_isWhole : rX3_isWhole.all (q_rck q_mt 438 mX3_isWhole) = true := by decide +kernel
theorem kX3_isWhole : q_mok q_mt 438 mX3_isWhole := ⟨by decide +kernel, rfl, q_in_mem kcX3_isWhole, Nat.le_of_ble_eq_true rfl, kaX3_isWhole⟩
theorem kcX3_hasPanel : q_in 1062 (Cond.code mX3_hasPanel.2.1 mX3_hasPanel.2.2.1 mX3_hasPanel.2.2.2.1 mX3_hasPanel.2.2.2.2.1) = true := by decide +kernel
theorem kaX3_hasPanel : rX3_hasPanel.all (q_rck q_mt 438 mX3_hasPanel) = true := by decide +kernel
theorem kX3_hasPanel : q_mok q_mt 438 mX3_hasPanel := ⟨by decide +kernel, rfl, q_in_mem kcX3_hasPanel, Nat.le_of_ble_eq_true rfl, kaX3_hasPanel⟩
theorem kcX4_init : q_in 752 (Cond.code mX4_init.2.1 mX4_init.2.2.1 mX4_init.2.2.2.1 mX4_init.2.2.2.2.1) = true := by decide +kernel
theorem kaX4_init : rX4_init.all (q_rck q_mt 438 mX4_init) = true := by decide +kernel
theorem kX4_init : q_mok q_mt 438 mX4_init := ⟨by decide +kernel, rfl, q_in_mem kcX4_init, Nat.le_of_ble_eq_true rfl, kaX4_init⟩
theorem kcX4_leastAward : q_in 1796 (Cond.code mX4_leastAward.2.1 mX4_leastAward.2.2.1 mX4_leastAward.2.2.2.1 mX4_leastAward.2.2.2.2.1) = true := by decide +kernel
theorem kaX4_leastAward : rX4_leastAward.all (q_rck q_mt 438 mX4_leastAward) = true := by decide +kernel
theorem kX4_leastAward : q_mok q_mt 438 mX4_leastAward := ⟨by decide +kernel, rfl, q_in_mem kcX4_leastAward, Nat.le_of_ble_eq_true rfl, kaX4_leastAward⟩
theorem kcX4_spreadOf : q_in 1806 (Cond.code mX4_spreadOf.2.1 mX4_spreadOf.2.2.1 mX4_spreadOf.2.2.2.1 mX4_spreadOf.2.2.2.2.1) = true := by decide +kernel
theorem kaX4_spreadOf : rX4_spreadOf.all (q_rck q_mt 438 mX4_spreadOf) = true := by decide +kernel
theorem kX4_spreadOf : q_mok q_mt 438 mX4_spreadOf := ⟨by decide +kernel, rfl, q_in_mem kcX4_spreadOf, Nat.le_of_ble_eq_true rfl, kaX4_spreadOf⟩
theorem kcX4_fewestBribes : q_in 1816 (Cond.code mX4_fewestBribes.2.1 mX4_fewestBribes.2.2.1 mX4_fewestBribes.2.2.2.1 mX4_fewestBribes.2.2.2.2.1) = true := by decide +kernel
theorem kaX4_fewestBribes : rX4_fewestBribes.all (q_rck q_mt 438 mX4_fewestBribes) = true := by decide +kernel
theorem kX4_fewestBribes : q_mok q_mt 438 mX4_fewestBribes := ⟨by decide +kernel, rfl, q_in_mem kcX4_fewestBribes, Nat.le_of_ble_eq_true rfl, kaX4_fewestBribes⟩
theorem kcX4_tryBribes : q_in 1826 (Cond.code mX4_tryBribes.2.1 mX4_tryBribes.2.2.1 mX4_tryBribes.2.2.2.1 mX4_tryBribes.2.2.2.2.1) = true := by decide +kernel
theorem kaX4_tryBribes : rX4_tryBribes.all (q_rck q_mt 438 mX4_tryBribes) = true := by decide +kernel
theorem kX4_tryBribes : q_mok q_mt 438 mX4_tryBribes := ⟨by decide +kernel, rfl, q_in_mem kcX4_tryBribes, Nat.le_of_ble_eq_true rfl, kaX4_tryBribes⟩
theorem kcX4_bribe : q_in 1834 (Cond.code mX4_bribe.2.1 mX4_bribe.2.2.1 mX4_bribe.2.2.2.1 mX4_bribe.2.2.2.2.1) = true := by decide +kernel
theorem kaX4_bribe : rX4_bribe.all (q_rck q_mt 438 mX4_bribe) = true := by decide +kernel
theorem kX4_bribe : q_mok q_mt 438 mX4_bribe := ⟨by decide +kernel, rfl, q_in_mem kcX4_bribe, Nat.le_of_ble_eq_true rfl, kaX4_bribe⟩
theorem kcX4_isJudged : q_in 1847 (Cond.code mX4_isJudged.2.1 mX4_isJudged.2.2.1 mX4_isJudged.2.2.2.1 mX4_isJudged.2.2.2.2.1) = true := by decide +kernel
theorem kaX4_isJudged : rX4_isJudged.all (q_rck q_mt 438 mX4_isJudged) = true := by decide +kernel
theorem kX4_isJudged : q_mok q_mt 438 mX4_isJudged := ⟨by decide +kernel, rfl, q_in_mem kcX4_isJudged, Nat.le_of_ble_eq_true rfl, kaX4_isJudged⟩
theorem kcX4_biasOf : q_in 1843 (Cond.code mX4_biasOf.2.1 mX4_biasOf.2.2.1 mX4_biasOf.2.2.2.1 mX4_biasOf.2.2.2.2.1) = true := by decide +kernel
theorem kaX4_biasOf : rX4_biasOf.all (q_rck q_mt 438 mX4_biasOf) = true := by decide +kernel
theorem kX4_biasOf : q_mok q_mt 438 mX4_biasOf := ⟨by decide +kernel, rfl, q_in_mem kcX4_biasOf, Nat.le_of_ble_eq_true rfl, kaX4_biasOf⟩
theorem kcX4_countAlike : q_in 1862 (Cond.code mX4_countAlike.2.1 mX4_countAlike.2.2.1 mX4_countAlike.2.2.2.1 mX4_countAlike.2.2.2.2.1) = true := by decide +kernel
theorem kaX4_countAlike : rX4_countAlike.all (q_rck q_mt 438 mX4_countAlike) = true := by decide +kernel
theorem kX4_countAlike : q_mok q_mt 438 mX4_countAlike := ⟨by decide +kernel, rfl, q_in_mem kcX4_countAlike, Nat.le_of_ble_eq_true rfl, kaX4_countAlike⟩
theorem kcX4_countPlaced : q_in 1871 (Cond.code mX4_countPlaced.2.1 mX4_countPlaced.2.2.1 mX4_countPlaced.2.2.2.1 mX4_countPlaced.2.2.2.2.1) = true := by decide +kernel
theorem kaX4_countPlaced : rX4_countPlaced.all (q_rck q_mt 438 mX4_countPlaced) = true := by decide +kernel
theorem kX4_countPlaced : q_mok q_mt 438 mX4_countPlaced := ⟨by decide +kernel, rfl, q_in_mem kcX4_countPlaced, Nat.le_of_ble_eq_true rfl, kaX4_countPlaced⟩
theorem kcX4_totalAnew : q_in 1880 (Cond.code mX4_totalAnew.2.1 mX4_totalAnew.2.2.1 mX4_totalAnew.2.2.2.1 mX4_totalAnew.2.2.2.2.1) = true := by decide +kernel
theorem kaX4_totalAnew : rX4_totalAnew.all (q_rck q_mt 438 mX4_totalAnew) = true := by decide +kernel
theorem kX4_totalAnew : q_mok q_mt 438 mX4_totalAnew := ⟨by decide +kernel, rfl, q_in_mem kcX4_totalAnew, Nat.le_of_ble_eq_true rfl, kaX4_totalAnew⟩
theorem kcX4_totalByForm : q_in 1892 (Cond.code mX4_totalByForm.2.1 mX4_totalByForm.2.2.1 mX4_totalByForm.2.2.2.1 mX4_totalByForm.2.2.2.2.1) = true := by decide +kernel
theorem kaX4_totalByForm : rX4_totalByForm.all (q_rck q_mt 438 mX4_totalByForm) = true := by decide +kernel
theorem kX4_totalByForm : q_mok q_mt 438 mX4_totalByForm := ⟨by decide +kernel, rfl, q_in_mem kcX4_totalByForm, Nat.le_of_ble_eq_true rfl, kaX4_totalByForm⟩
theorem kcX4_wouldGoOn : q_in 1905 (Cond.code mX4_wouldGoOn.2.1 mX4_wouldGoOn.2.2.1 mX4_wouldGoOn.2.2.2.1 mX4_wouldGoOn.2.2.2.2.1) = true := by decide +kernel
theorem kaX4_wouldGoOn : rX4_wouldGoOn.all (q_rck q_mt 438 mX4_wouldGoOn) = true := by decide +kernel
theorem kX4_wouldGoOn : q_mok q_mt 438 mX4_wouldGoOn := ⟨by decide +kernel, rfl, q_in_mem kcX4_wouldGoOn, Nat.le_of_ble_eq_true rfl, kaX4_wouldGoOn⟩
theorem kcX4_countWins : q_in 1930 (Cond.code mX4_countWins.2.1 mX4_countWins.2.2.1 mX4_countWins.2.2.2.1 mX4_countWins.2.2.2.2.1) = true := by decide +kernel
theorem kaX4_countWins : rX4_countWins.all (q_rck q_mt 438 mX4_countWins) = true := by decide +kernel
theorem kX4_countWins : q_mok q_mt 438 mX4_countWins := ⟨by decide +kernel, rfl, q_in_mem kcX4_countWins, Nat.le_of_ble_eq_true rfl, kaX4_countWins⟩
theorem kcX4_playDive : q_in 1935 (Cond.code mX4_playDive.2.1 mX4_playDive.2.2.1 mX4_playDive.2.2.2.1 mX4_playDive.2.2.2.2.1) = true := by decide +kernel
theorem kaX4_playDive : rX4_playDive.all (q_rck q_mt 438 mX4_playDive) = true := by decide +kernel
theorem kX4_playDive : q_mok q_mt 438 mX4_playDive := ⟨by decide +kernel, rfl, q_in_mem kcX4_playDive, Nat.le_of_ble_eq_true rfl, kaX4_playDive⟩
theorem kcX4_draw : q_in 1942 (Cond.code mX4_draw.2.1 mX4_draw.2.2.1 mX4_draw.2.2.2.1 mX4_draw.2.2.2.2.1) = true := by decide +kernel
theorem kaX4_draw : rX4_draw.all (q_rck q_mt 438 mX4_draw) = true := by decide +kernel
theorem kX4_draw : q_mok q_mt 438 mX4_draw := ⟨by decide +kernel, rfl, q_in_mem kcX4_draw, Nat.le_of_ble_eq_true rfl, kaX4_draw⟩
theorem kcX5_init : q_in 609 (Cond.code mX5_init.2.1 mX5_init.2.2.1 mX5_init.2.2.2.1 mX5_init.2.2.2.2.1) = true := by decide +kernel
theorem kaX5_init : rX5_init.all (q_rck q_mt 438 mX5_init) = true := by decide +kernel
theorem kX5_init : q_mok q_mt 438 mX5_init := ⟨by decide +kernel, rfl, q_in_mem kcX5_init, Nat.le_of_ble_eq_true rfl, kaX5_init⟩
theorem kcX5_seat : q_in 1253 (Cond.code mX5_seat.2.1 mX5_seat.2.2.1 mX5_seat.2.2.2.1 mX5_seat.2.2.2.2.1) = true := by decide +kernel
theorem kaX5_seat : rX5_seat.all (q_rck q_mt 438 mX5_seat) = true := by decide +kernel
theorem kX5_seat : q_mok q_mt 438 mX5_seat := ⟨by decide +kernel, rfl, q_in_mem kcX5_seat, Nat.le_of_ble_eq_true rfl, kaX5_seat⟩
theorem kcX5_isOfSort : q_in 1276 (Cond.code mX5_isOfSort.2.1 mX5_isOfSort.2.2.1 mX5_isOfSort.2.2.2.1 mX5_isOfSort.2.2.2.2.1) = true := by decide +kernel
theorem kaX5_isOfSort : rX5_isOfSort.all (q_rck q_mt 438 mX5_isOfSort) = true := by decide +kernel
theorem kX5_isOfSort : q_mok q_mt 438 mX5_isOfSort := ⟨by decide +kernel, rfl, q_in_mem kcX5_isOfSort, Nat.le_of_ble_eq_true rfl, kaX5_isOfSort⟩
theorem kcX5_score : q_in 1268 (Cond.code mX5_score.2.1 mX5_score.2.2.1 mX5_score.2.2.2.1 mX5_score.2.2.2.2.1) = true := by decide +kernel
theorem kaX5_score : rX5_score.all (q_rck q_mt 438 mX5_score) = true := by decide +kernel
theorem kX5_score : q_mok q_mt 438 mX5_score := ⟨by decide +kernel, rfl, q_in_mem kcX5_score, Nat.le_of_ble_eq_true rfl, kaX5_score⟩
theorem kcX5_lineUp : q_in 1272 (Cond.code mX5_lineUp.2.1 mX5_lineUp.2.2.1 mX5_lineUp.2.2.2.1 mX5_lineUp.2.2.2.2.1) = true := by decide +kernel
theorem kaX5_lineUp : rX5_lineUp.all (q_rck q_mt 438 mX5_lineUp) = true := by decide +kernel
theorem kX5_lineUp : q_mok q_mt 438 mX5_lineUp := ⟨by decide +kernel, rfl, q_in_mem kcX5_lineUp, Nat.le_of_ble_eq_true rfl, kaX5_lineUp⟩
theorem kcX5_countOf : q_in 1280 (Cond.code mX5_countOf.2.1 mX5_countOf.2.2.1 mX5_countOf.2.2.2.1 mX5_countOf.2.2.2.2.1) = true := by decide +kernel
theorem kaX5_countOf : rX5_countOf.all (q_rck q_mt 438 mX5_countOf) = true := by decide +kernel
theorem kX5_countOf : q_mok q_mt 438 mX5_countOf := ⟨by decide +kernel, rfl, q_in_mem kcX5_countOf, Nat.le_of_ble_eq_true rfl, kaX5_countOf⟩
theorem kcX5_trim : q_in 1290 (Cond.code mX5_trim.2.1 mX5_trim.2.2.1 mX5_trim.2.2.2.1 mX5_trim.2.2.2.2.1) = true := by decide +kernel
theorem kaX5_trim : rX5_trim.all (q_rck q_mt 438 mX5_trim) = true := by decide +kernel
theorem kX5_trim : q_mok q_mt 438 mX5_trim := ⟨by decide +kernel, rfl, q_in_mem kcX5_trim, Nat.le_of_ble_eq_true rfl, kaX5_trim⟩
theorem kcX5_placeOf : q_in 1821 (Cond.code mX5_placeOf.2.1 mX5_placeOf.2.2.1 mX5_placeOf.2.2.2.1 mX5_placeOf.2.2.2.2.1) = true := by decide +kernel
theorem kaX5_placeOf : rX5_placeOf.all (q_rck q_mt 438 mX5_placeOf) = true := by decide +kernel
theorem kX5_placeOf : q_mok q_mt 438 mX5_placeOf := ⟨by decide +kernel, rfl, q_in_mem kcX5_placeOf, Nat.le_of_ble_eq_true rfl, kaX5_placeOf⟩
