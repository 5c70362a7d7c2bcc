/-! the rows are the code, the sites are the tables' (part 5) -/
theorem kcX11_award : q_in 1572 (Cond.code mX11_award.2.1 mX11_award.2.2.1 mX11_award.2.2.2.1 mX11_award.2.2.2.2.1) = true := by decide +kernel
theorem kaX11_award : rX11_award.all (q_rck q_mt 438 mX11_award) = true := by decide +kernel
theorem kX11_award : q_mok q_mt 438 mX11_award := ⟨by decide +kernel, rfl, q_in_mem kcX11_award, Nat.le_of_ble_eq_true rfl, kaX11_award⟩
theorem kcX11_kept : q_in 1591 (Cond.code mX11_kept.2.1 mX11_kept.2.2.1 mX11_kept.2.2.2.1 mX11_kept.2.2.2.2.1) = true := by decide +kernel
theorem kaX11_kept : rX11_kept.all (q_rck q_mt 438 mX11_kept) = true := by decide +kernel
theorem kX11_kept : q_mok q_mt 438 mX11_kept := ⟨by decide +kernel, rfl, q_in_mem kcX11_kept, Nat.le_of_ble_eq_true rfl, kaX11_kept⟩
theorem kcX11_total : q_in 1595 (Cond.code mX11_total.2.1 mX11_total.2.2.1 mX11_total.2.2.2.1 mX11_total.2.2.2.2.1) = true := by decide +kernel
theorem kaX11_total : rX11_total.all (q_rck q_mt 438 mX11_total) = true := by decide +kernel
theorem kX11_total : q_mok q_mt 438 mX11_total := ⟨by decide +kernel, rfl, q_in_mem kcX11_total, Nat.le_of_ble_eq_true rfl, kaX11_total⟩
theorem kcX11_rank : q_in 1605 (Cond.code mX11_rank.2.1 mX11_rank.2.2.1 mX11_rank.2.2.2.1 mX11_rank.2.2.2.2.1) = true := by decide +kernel
theorem kaX11_rank : rX11_rank.all (q_rck q_mt 438 mX11_rank) = true := by decide +kernel
theorem kX11_rank : q_mok q_mt 438 mX11_rank := ⟨by decide +kernel, rfl, q_in_mem kcX11_rank, Nat.le_of_ble_eq_true rfl, kaX11_rank⟩
theorem kcX11_at : q_in 1621 (Cond.code mX11_at.2.1 mX11_at.2.2.1 mX11_at.2.2.2.1 mX11_at.2.2.2.2.1) = true := by decide +kernel
theorem kaX11_at : rX11_at.all (q_rck q_mt 438 mX11_at) = true := by decide +kernel
theorem kX11_at : q_mok q_mt 438 mX11_at := ⟨by decide +kernel, rfl, q_in_mem kcX11_at, Nat.le_of_ble_eq_true rfl, kaX11_at⟩
theorem kcX11_sheet : q_in 1630 (Cond.code mX11_sheet.2.1 mX11_sheet.2.2.1 mX11_sheet.2.2.2.1 mX11_sheet.2.2.2.2.1) = true := by decide +kernel
theorem kaX11_sheet : rX11_sheet.all (q_rck q_mt 438 mX11_sheet) = true := by decide +kernel
theorem kX11_sheet : q_mok q_mt 438 mX11_sheet := ⟨by decide +kernel, rfl, q_in_mem kcX11_sheet, Nat.le_of_ble_eq_true rfl, kaX11_sheet⟩
theorem kcX11_isGiven : q_in 1580 (Cond.code mX11_isGiven.2.1 mX11_isGiven.2.2.1 mX11_isGiven.2.2.2.1 mX11_isGiven.2.2.2.2.1) = true := by decide +kernel
theorem kaX11_isGiven : rX11_isGiven.all (q_rck q_mt 438 mX11_isGiven) = true := by decide +kernel
theorem kX11_isGiven : q_mok q_mt 438 mX11_isGiven := ⟨by decide +kernel, rfl, q_in_mem kcX11_isGiven, Nat.le_of_ble_eq_true rfl, kaX11_isGiven⟩
theorem kcX11_isJudged : q_in 1576 (Cond.code mX11_isJudged.2.1 mX11_isJudged.2.2.1 mX11_isJudged.2.2.2.1 mX11_isJudged.2.2.2.2.1) = true := by decide +kernel
theorem kaX11_isJudged : rX11_isJudged.all (q_rck q_mt 438 mX11_isJudged) = true := by decide +kernel
theorem kX11_isJudged : q_mok q_mt 438 mX11_isJudged := ⟨by decide +kernel, rfl, q_in_mem kcX11_isJudged, Nat.le_of_ble_eq_true rfl, kaX11_isJudged⟩
theorem kcX11_writePage : q_in 1634 (Cond.code mX11_writePage.2.1 mX11_writePage.2.2.1 mX11_writePage.2.2.2.1 mX11_writePage.2.2.2.2.1) = true := by decide +kernel
theorem kaX11_writePage : rX11_writePage.all (q_rck q_mt 438 mX11_writePage) = true := by decide +kernel
theorem kX11_writePage : q_mok q_mt 438 mX11_writePage := ⟨by decide +kernel, rfl, q_in_mem kcX11_writePage, Nat.le_of_ble_eq_true rfl, kaX11_writePage⟩
theorem kcX11_writeName : q_in 1761 (Cond.code mX11_writeName.2.1 mX11_writeName.2.2.1 mX11_writeName.2.2.2.1 mX11_writeName.2.2.2.2.1) = true := by decide +kernel
theorem kaX11_writeName : rX11_writeName.all (q_rck q_mt 438 mX11_writeName) = true := by decide +kernel
theorem kX11_writeName : q_mok q_mt 438 mX11_writeName := ⟨by decide +kernel, rfl, q_in_mem kcX11_writeName, Nat.le_of_ble_eq_true rfl, kaX11_writeName⟩
theorem kcX11_worth : q_in 1782 (Cond.code mX11_worth.2.1 mX11_worth.2.2.1 mX11_worth.2.2.2.1 mX11_worth.2.2.2.2.1) = true := by decide +kernel
theorem kaX11_worth : rX11_worth.all (q_rck q_mt 438 mX11_worth) = true := by decide +kernel
theorem kX11_worth : q_mok q_mt 438 mX11_worth := ⟨by decide +kernel, rfl, q_in_mem kcX11_worth, Nat.le_of_ble_eq_true rfl, kaX11_worth⟩
theorem kcX11_needs : q_in 1787 (Cond.code mX11_needs.2.1 mX11_needs.2.2.1 mX11_needs.2.2.2.1 mX11_needs.2.2.2.2.1) = true := by decide +kernel
theorem kaX11_needs : rX11_needs.all (q_rck q_mt 438 mX11_needs) = true := by decide +kernel
theorem kX11_needs : q_mok q_mt 438 mX11_needs := ⟨by decide +kernel, rfl, q_in_mem kcX11_needs, Nat.le_of_ble_eq_true rfl, kaX11_needs⟩
theorem kcX11_swing : q_in 1802 (Cond.code mX11_swing.2.1 mX11_swing.2.2.1 mX11_swing.2.2.2.1 mX11_swing.2.2.2.2.1) = true := by decide +kernel
theorem kaX11_swing : rX11_swing.all (q_rck q_mt 438 mX11_swing) = true := by decide +kernel
theorem kX11_swing : q_mok q_mt 438 mX11_swing := ⟨by decide +kernel, rfl, q_in_mem kcX11_swing, Nat.le_of_ble_eq_true rfl, kaX11_swing⟩
theorem kcX11_bribes : q_in 1812 (Cond.code mX11_bribes.2.1 mX11_bribes.2.2.1 mX11_bribes.2.2.2.1 mX11_bribes.2.2.2.2.1) = true := by decide +kernel
theorem kaX11_bribes : rX11_bribes.all (q_rck q_mt 438 mX11_bribes) = true := by decide +kernel
theorem kX11_bribes : q_mok q_mt 438 mX11_bribes := ⟨by decide +kernel, rfl, q_in_mem kcX11_bribes, Nat.le_of_ble_eq_true rfl, kaX11_bribes⟩
theorem kcX11_bias : q_in 1838 (Cond.code mX11_bias.2.1 mX11_bias.2.2.1 mX11_bias.2.2.2.1 mX11_bias.2.2.2.2.1) = true := by decide +kernel
theorem kaX11_bias : rX11_bias.all (q_rck q_mt 438 mX11_bias) = true := by decide +kernel
theorem kX11_bias : q_mok q_mt 438 mX11_bias := ⟨by decide +kernel, rfl, q_in_mem kcX11_bias, Nat.le_of_ble_eq_true rfl, kaX11_bias⟩
theorem kcX11_alike : q_in 1858 (Cond.code mX11_alike.2.1 mX11_alike.2.2.1 mX11_alike.2.2.2.1 mX11_alike.2.2.2.2.1) = true := by decide +kernel
theorem kaX11_alike : rX11_alike.all (q_rck q_mt 438 mX11_alike) = true := by decide +kernel
theorem kX11_alike : q_mok q_mt 438 mX11_alike := ⟨by decide +kernel, rfl, q_in_mem kcX11_alike, Nat.le_of_ble_eq_true rfl, kaX11_alike⟩
theorem kcX11_dropped : q_in 1867 (Cond.code mX11_dropped.2.1 mX11_dropped.2.2.1 mX11_dropped.2.2.2.1 mX11_dropped.2.2.2.2.1) = true := by decide +kernel
theorem kaX11_dropped : rX11_dropped.all (q_rck q_mt 438 mX11_dropped) = true := by decide +kernel
theorem kX11_dropped : q_mok q_mt 438 mX11_dropped := ⟨by decide +kernel, rfl, q_in_mem kcX11_dropped, Nat.le_of_ble_eq_true rfl, kaX11_dropped⟩
theorem kcX11_without : q_in 1875 (Cond.code mX11_without.2.1 mX11_without.2.2.1 mX11_without.2.2.2.1 mX11_without.2.2.2.2.1) = true := by decide +kernel
theorem kaX11_without : rX11_without.all (q_rck q_mt 438 mX11_without) = true := by decide +kernel
theorem kX11_without : q_mok q_mt 438 mX11_without := ⟨by decide +kernel, rfl, q_in_mem kcX11_without, Nat.le_of_ble_eq_true rfl, kaX11_without⟩
theorem kcX11_asDrop : q_in 1884 (Cond.code mX11_asDrop.2.1 mX11_asDrop.2.2.1 mX11_asDrop.2.2.2.1 mX11_asDrop.2.2.2.2.1) = true := by decide +kernel
theorem kaX11_asDrop : rX11_asDrop.all (q_rck q_mt 438 mX11_asDrop) = true := by decide +kernel
theorem kX11_asDrop : q_mok q_mt 438 mX11_asDrop := ⟨by decide +kernel, rfl, q_in_mem kcX11_asDrop, Nat.le_of_ble_eq_true rfl, kaX11_asDrop⟩
theorem kcX11_expected : q_in 1888 (Cond.code mX11_expected.2.1 mX11_expected.2.2.1 mX11_expected.2.2.2.1 mX11_expected.2.2.2.2.1) = true := by decide +kernel
theorem kaX11_expected : rX11_expected.all (q_rck q_mt 438 mX11_expected) = true := by decide +kernel
theorem kX11_expected : q_mok q_mt 438 mX11_expected := ⟨by decide +kernel, rfl, q_in_mem kcX11_expected, Nat.le_of_ble_eq_true rfl, kaX11_expected⟩
theorem kcX11_goes : q_in 1897 (Cond.code mX11_goes.2.1 mX11_goes.2.2.1 mX11_goes.2.2.2.1 mX11_goes.2.2.2.2.1) = true := by decide +kernel
theorem kaX11_goes : rX11_goes.all (q_rck q_mt 438 mX11_goes) = true := by decide +kernel
theorem kX11_goes : q_mok q_mt 438 mX11_goes := ⟨by decide +kernel, rfl, q_in_mem kcX11_goes, Nat.le_of_ble_eq_true rfl, kaX11_goes⟩
theorem kcX11_order : q_in 1912 (Cond.code mX11_order.2.1 mX11_order.2.2.1 mX11_order.2.2.2.1 mX11_order.2.2.2.2.1) = true := by decide +kernel
theorem kaX11_order : rX11_order.all (q_rck q_mt 438 mX11_order) = true := by decide +kernel
theorem kX11_order : q_mok q_mt 438 mX11_order := ⟨by decide +kernel, rfl, q_in_mem kcX11_order, Nat.le_of_ble_eq_true rfl, kaX11_order⟩
theorem kcX11_wins : q_in 1925 (Cond.code mX11_wins.2.1 mX11_wins.2.2.1 mX11_wins.2.2.2.1 mX11_wins.2.2.2.2.1) = true := by decide +kernel
theorem kaX11_wins : rX11_wins.all (q_rck q_mt 438 mX11_wins) = true := by decide +kernel
theorem kX11_wins : q_mok q_mt 438 mX11_wins := ⟨by decide +kernel, rfl, q_in_mem kcX11_wins, Nat.le_of_ble_eq_true rfl, kaX11_wins⟩
theorem kcX11_isOther : q_in 1791 (Cond.code mX11_isOther.2.1 mX11_isOther.2.2.1 mX11_isOther.2.2.2.1 mX11_isOther.2.2.2.2.1) = true := by decide +kernel
theorem kaX11_isOther : rX11_isOther.all (q_rck q_mt 438 mX11_isOther) = true := by decide +kernel
theorem kX11_isOther : q_mok q_mt 438 mX11_isOther := ⟨by decide +kernel, rfl, q_in_mem kcX11_isOther, Nat.le_of_ble_eq_true rfl, kaX11_isOther⟩
theorem kcX11_keep : q_in 1952 (Cond.code mX11_keep.2.1 mX11_keep.2.2.1 mX11_keep.2.2.2.1 mX11_keep.2.2.2.2.1) = true := by decide +kernel
theorem kaX11_keep : rX11_keep.all (q_rck q_mt 438 mX11_keep) = true := by decide +kernel
theorem kX11_keep : q_mok q_mt 438 mX11_keep := ⟨by decide +kernel, rfl, q_in_mem kcX11_keep, Nat.le_of_ble_eq_true rfl, kaX11_keep⟩
theorem kcX11_back : q_in 1961 (Cond.code mX11_back.2.1 mX11_back.2.2.1 mX11_back.2.2.2.1 mX11_back.2.2.2.2.1) = true := by decide +kernel
theorem kaX11_back : rX11_back.all (q_rck q_mt 438 mX11_back) = true := by decide +kernel
theorem kX11_back : q_mok q_mt 438 mX11_back := ⟨by decide +kernel, rfl, q_in_mem kcX11_back, Nat.le_of_ble_eq_true rfl, kaX11_back⟩
theorem kcX12_isIn : q_in 2226 (Cond.code mX12_isIn.2.1 mX12_isIn.2.2.1 mX12_isIn.2.2.2.1 mX12_isIn.2.2.2.2.1) = true := by decide +kernel
theorem kaX12_isIn : rX12_isIn.all (q_rck q_mt 438 mX12_isIn) = true := by decide +kernel
theorem kX12_isIn : q_mok q_mt 438 mX12_isIn := ⟨by decide +kernel, rfl, q_in_mem kcX12_isIn, Nat.le_of_ble_eq_true rfl, kaX12_isIn⟩
theorem kcX12_has : q_in 2543 (Cond.code mX12_has.2.1 mX12_has.2.2.1 mX12_has.2.2.2.1 mX12_has.2.2.2.2.1) = true := by decide +kernel
theorem kaX12_has : rX12_has.all (q_rck q_mt 438 mX12_has) = true := by decide +kernel
theorem kX12_has : q_mok q_mt 438 mX12_has := ⟨by decide +kernel, rfl, q_in_mem kcX12_has, Nat.le_of_ble_eq_true rfl, kaX12_has⟩
theorem kcX12_lesser : q_in 2715 (Cond.code mX12_lesser.2.1 mX12_lesser.2.2.1 mX12_lesser.2.2.2.1 mX12_lesser.2.2.2.2.1) = true := by decide +kernel
theorem kaX12_lesser : rX12_lesser.all (q_rck q_mt 438 mX12_lesser) = true := by decide +kernel
theorem kX12_lesser : q_mok q_mt 438 mX12_lesser := ⟨by decide +kernel, rfl, q_in_mem kcX12_lesser, Nat.le_of_ble_eq_true rfl, kaX12_lesser⟩
theorem kcX12_clipped : q_in 2570 (Cond.code mX12_clipped.2.1 mX12_clipped.2.2.1 mX12_clipped.2.2.2.1 mX12_clipped.2.2.2.2.1) = true := by decide +kernel
theorem kaX12_clipped : rX12_clipped.all (q_rck q_mt 438 mX12_clipped) = true := by decide +kernel
theorem kX12_clipped : q_mok q_mt 438 mX12_clipped := ⟨by decide +kernel, rfl, q_in_mem kcX12_clipped, Nat.le_of_ble_eq_true rfl, kaX12_clipped⟩
theorem kcX12_init : q_in 1966 (Cond.code mX12_init.2.1 mX12_init.2.2.1 mX12_init.2.2.2.1 mX12_init.2.2.2.2.1) = true := by decide +kernel
theorem kaX12_init : rX12_init.all (q_rck q_mt 438 mX12_init) = true := by decide +kernel
theorem kX12_init : q_mok q_mt 438 mX12_init := ⟨by decide +kernel, rfl, q_in_mem kcX12_init, Nat.le_of_ble_eq_true rfl, kaX12_init⟩
theorem kcX12_four : q_in 2158 (Cond.code mX12_four.2.1 mX12_four.2.2.1 mX12_four.2.2.2.1 mX12_four.2.2.2.2.1) = true := by decide +kernel
theorem kaX12_four : rX12_four.all (q_rck q_mt 438 mX12_four) = true := by decide +kernel
theorem kX12_four : q_mok q_mt 438 mX12_four := ⟨by decide +kernel, rfl, q_in_mem kcX12_four, Nat.le_of_ble_eq_true rfl, kaX12_four⟩
theorem kcX12_feed : q_in 2154 (Cond.code mX12_feed.2.1 mX12_feed.2.2.1 mX12_feed.2.2.2.1 mX12_feed.2.2.2.2.1) = true := by decide +kernel
theorem kaX12_feed : rX12_feed.all (q_rck q_mt 438 mX12_feed) = true := by decide +kernel
theorem kX12_feed : q_mok q_mt 438 mX12_feed := ⟨by decide +kernel, rfl, q_in_mem kcX12_feed, Nat.le_of_ble_eq_true rfl, kaX12_feed⟩
theorem kcX12_end : q_in 2162 (Cond.code mX12_end.2.1 mX12_end.2.2.1 mX12_end.2.2.2.1 mX12_end.2.2.2.2.1) = true := by decide +kernel
theorem kaX12_end : rX12_end.all (q_rck q_mt 438 mX12_end) = true := by decide +kernel
theorem kX12_end : q_mok q_mt 438 mX12_end := ⟨by decide +kernel, rfl, q_in_mem kcX12_end, Nat.le_of_ble_eq_true rfl, kaX12_end⟩
theorem kcX12_isLetter : q_in 2177 (Cond.code mX12_isLetter.2.1 mX12_isLetter.2.2.1 mX12_isLetter.2.2.2.1 mX12_isLetter.2.2.2.2.1) = true := by decide +kernel
theorem kaX12_isLetter : rX12_isLetter.all (q_rck q_mt 438 mX12_isLetter) = true := by decide +kernel
theorem kX12_isLetter : q_mok q_mt 438 mX12_isLetter := ⟨by decide +kernel, rfl, q_in_mem kcX12_isLetter, Nat.le_of_ble_eq_true rfl, kaX12_isLetter⟩
theorem kcX12_isDigit : q_in 2184 (Cond.code mX12_isDigit.2.1 mX12_isDigit.2.2.1 mX12_isDigit.2.2.2.1 mX12_isDigit.2.2.2.2.1) = true := by decide +kernel
theorem kaX12_isDigit : rX12_isDigit.all (q_rck q_mt 438 mX12_isDigit) = true := by decide +kernel
theorem kX12_isDigit : q_mok q_mt 438 mX12_isDigit := ⟨by decide +kernel, rfl, q_in_mem kcX12_isDigit, Nat.le_of_ble_eq_true rfl, kaX12_isDigit⟩
theorem kcX12_isSignByte : q_in 2191 (Cond.code mX12_isSignByte.2.1 mX12_isSignByte.2.2.1 mX12_isSignByte.2.2.2.1 mX12_isSignByte.2.2.2.2.1) = true := by decide +kernel
theorem kaX12_isSignByte : rX12_isSignByte.all (q_rck q_mt 438 mX12_isSignByte) = true := by decide +kernel
theorem kX12_isSignByte : q_mok q_mt 438 mX12_isSignByte := ⟨by decide +kernel, rfl, q_in_mem kcX12_isSignByte, Nat.le_of_ble_eq_true rfl, kaX12_isSignByte⟩
theorem kcX12_wordFrom : q_in 2181 (Cond.code mX12_wordFrom.2.1 mX12_wordFrom.2.2.1 mX12_wordFrom.2.2.2.1 mX12_wordFrom.2.2.2.2.1) = true := by decide +kernel
theorem kaX12_wordFrom : rX12_wordFrom.all (q_rck q_mt 438 mX12_wordFrom) = true := by decide +kernel
theorem kX12_wordFrom : q_mok q_mt 438 mX12_wordFrom := ⟨by decide +kernel, rfl, q_in_mem kcX12_wordFrom, Nat.le_of_ble_eq_true rfl, kaX12_wordFrom⟩
theorem kcX12_numberFrom : q_in 2188 (Cond.code mX12_numberFrom.2.1 mX12_numberFrom.2.2.1 mX12_numberFrom.2.2.2.1 mX12_numberFrom.2.2.2.2.1) = true := by decide +kernel
theorem kaX12_numberFrom : rX12_numberFrom.all (q_rck q_mt 438 mX12_numberFrom) = true := by decide +kernel
theorem kX12_numberFrom : q_mok q_mt 438 mX12_numberFrom := ⟨by decide +kernel, rfl, q_in_mem kcX12_numberFrom, Nat.le_of_ble_eq_true rfl, kaX12_numberFrom⟩
theorem kcX12_splits : q_in 2174 (Cond.code mX12_splits.2.1 mX12_splits.2.2.1 mX12_splits.2.2.2.1 mX12_splits.2.2.2.2.1) = true := by decide +kernel
theorem kaX12_splits : rX12_splits.all (q_rck q_mt 438 mX12_splits) = true := by decide +kernel
theorem kX12_splits : q_mok q_mt 438 mX12_splits := ⟨by decide +kernel, rfl, q_in_mem kcX12_splits, Nat.le_of_ble_eq_true rfl, kaX12_splits⟩
