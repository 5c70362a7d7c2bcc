/-! the rows are the code, the sites are the tables' (part 10) -/
theorem kcX12_total : q_in 2831 (Cond.code mX12_total.2.1 mX12_total.2.2.1 mX12_total.2.2.2.1 mX12_total.2.2.2.2.1) = true := by decide +kernel
theorem kaX12_total : rX12_total.all (q_rck q_mt 438 mX12_total) = true := by decide +kernel
theorem kX12_total : q_mok q_mt 438 mX12_total := ⟨by decide +kernel, rfl, q_in_mem kcX12_total, Nat.le_of_ble_eq_true rfl, kaX12_total⟩
theorem kcX12_reachOf : q_in 2847 (Cond.code mX12_reachOf.2.1 mX12_reachOf.2.2.1 mX12_reachOf.2.2.2.1 mX12_reachOf.2.2.2.2.1) = true := by decide +kernel
theorem kaX12_reachOf : rX12_reachOf.all (q_rck q_mt 438 mX12_reachOf) = true := by decide +kernel
theorem kX12_reachOf : q_mok q_mt 438 mX12_reachOf := ⟨by decide +kernel, rfl, q_in_mem kcX12_reachOf, Nat.le_of_ble_eq_true rfl, kaX12_reachOf⟩
theorem kcX12_laysTotals : q_in 2839 (Cond.code mX12_laysTotals.2.1 mX12_laysTotals.2.2.1 mX12_laysTotals.2.2.2.1 mX12_laysTotals.2.2.2.2.1) = true := by decide +kernel
theorem kaX12_laysTotals : rX12_laysTotals.all (q_rck q_mt 438 mX12_laysTotals) = true := by decide +kernel
theorem kX12_laysTotals : q_mok q_mt 438 mX12_laysTotals := ⟨by decide +kernel, rfl, q_in_mem kcX12_laysTotals, Nat.le_of_ble_eq_true rfl, kaX12_laysTotals⟩
theorem kcX12_rankOfLaid : q_in 2843 (Cond.code mX12_rankOfLaid.2.1 mX12_rankOfLaid.2.2.1 mX12_rankOfLaid.2.2.2.1 mX12_rankOfLaid.2.2.2.2.1) = true := by decide +kernel
theorem kaX12_rankOfLaid : rX12_rankOfLaid.all (q_rck q_mt 438 mX12_rankOfLaid) = true := by decide +kernel
theorem kX12_rankOfLaid : q_mok q_mt 438 mX12_rankOfLaid := ⟨by decide +kernel, rfl, q_in_mem kcX12_rankOfLaid, Nat.le_of_ble_eq_true rfl, kaX12_rankOfLaid⟩
theorem kcX12_rank : q_in 2835 (Cond.code mX12_rank.2.1 mX12_rank.2.2.1 mX12_rank.2.2.2.1 mX12_rank.2.2.2.2.1) = true := by decide +kernel
theorem kaX12_rank : rX12_rank.all (q_rck q_mt 438 mX12_rank) = true := by decide +kernel
theorem kX12_rank : q_mok q_mt 438 mX12_rank := ⟨by decide +kernel, rfl, q_in_mem kcX12_rank, Nat.le_of_ble_eq_true rfl, kaX12_rank⟩
theorem kcX12_atLaid : q_in 2855 (Cond.code mX12_atLaid.2.1 mX12_atLaid.2.2.1 mX12_atLaid.2.2.2.1 mX12_atLaid.2.2.2.2.1) = true := by decide +kernel
theorem kaX12_atLaid : rX12_atLaid.all (q_rck q_mt 438 mX12_atLaid) = true := by decide +kernel
theorem kX12_atLaid : q_mok q_mt 438 mX12_atLaid := ⟨by decide +kernel, rfl, q_in_mem kcX12_atLaid, Nat.le_of_ble_eq_true rfl, kaX12_atLaid⟩
theorem kcX12_at : q_in 2851 (Cond.code mX12_at.2.1 mX12_at.2.2.1 mX12_at.2.2.2.1 mX12_at.2.2.2.2.1) = true := by decide +kernel
theorem kaX12_at : rX12_at.all (q_rck q_mt 438 mX12_at) = true := by decide +kernel
theorem kX12_at : q_mok q_mt 438 mX12_at := ⟨by decide +kernel, rfl, q_in_mem kcX12_at, Nat.le_of_ble_eq_true rfl, kaX12_at⟩
theorem kcX12_says : q_in 2871 (Cond.code mX12_says.2.1 mX12_says.2.2.1 mX12_says.2.2.2.1 mX12_says.2.2.2.2.1) = true := by decide +kernel
theorem kaX12_says : rX12_says.all (q_rck q_mt 438 mX12_says) = true := by decide +kernel
theorem kX12_says : q_mok q_mt 438 mX12_says := ⟨by decide +kernel, rfl, q_in_mem kcX12_says, Nat.le_of_ble_eq_true rfl, kaX12_says⟩
theorem kcX12_saysNumber : q_in 2867 (Cond.code mX12_saysNumber.2.1 mX12_saysNumber.2.2.1 mX12_saysNumber.2.2.2.1 mX12_saysNumber.2.2.2.2.1) = true := by decide +kernel
theorem kaX12_saysNumber : rX12_saysNumber.all (q_rck q_mt 438 mX12_saysNumber) = true := by decide +kernel
theorem kX12_saysNumber : q_mok q_mt 438 mX12_saysNumber := ⟨by decide +kernel, rfl, q_in_mem kcX12_saysNumber, Nat.le_of_ble_eq_true rfl, kaX12_saysNumber⟩
theorem kcX12_saysName : q_in 2875 (Cond.code mX12_saysName.2.1 mX12_saysName.2.2.1 mX12_saysName.2.2.2.1 mX12_saysName.2.2.2.2.1) = true := by decide +kernel
theorem kaX12_saysName : rX12_saysName.all (q_rck q_mt 438 mX12_saysName) = true := by decide +kernel
theorem kX12_saysName : q_mok q_mt 438 mX12_saysName := ⟨by decide +kernel, rfl, q_in_mem kcX12_saysName, Nat.le_of_ble_eq_true rfl, kaX12_saysName⟩
theorem kcX12_saysSheet : q_in 2863 (Cond.code mX12_saysSheet.2.1 mX12_saysSheet.2.2.1 mX12_saysSheet.2.2.2.1 mX12_saysSheet.2.2.2.2.1) = true := by decide +kernel
theorem kaX12_saysSheet : rX12_saysSheet.all (q_rck q_mt 438 mX12_saysSheet) = true := by decide +kernel
theorem kX12_saysSheet : q_mok q_mt 438 mX12_saysSheet := ⟨by decide +kernel, rfl, q_in_mem kcX12_saysSheet, Nat.le_of_ble_eq_true rfl, kaX12_saysSheet⟩
theorem kcX12_sheet : q_in 2859 (Cond.code mX12_sheet.2.1 mX12_sheet.2.2.1 mX12_sheet.2.2.2.1 mX12_sheet.2.2.2.2.1) = true := by decide +kernel
theorem kaX12_sheet : rX12_sheet.all (q_rck q_mt 438 mX12_sheet) = true := by decide +kernel
theorem kX12_sheet : q_mok q_mt 438 mX12_sheet := ⟨by decide +kernel, rfl, q_in_mem kcX12_sheet, Nat.le_of_ble_eq_true rfl, kaX12_sheet⟩
theorem kcX12_worth : q_in 2880 (Cond.code mX12_worth.2.1 mX12_worth.2.2.1 mX12_worth.2.2.2.1 mX12_worth.2.2.2.2.1) = true := by decide +kernel
theorem kaX12_worth : rX12_worth.all (q_rck q_mt 438 mX12_worth) = true := by decide +kernel
theorem kX12_worth : q_mok q_mt 438 mX12_worth := ⟨by decide +kernel, rfl, q_in_mem kcX12_worth, Nat.le_of_ble_eq_true rfl, kaX12_worth⟩
theorem kcX12_firstLeft : q_in 2888 (Cond.code mX12_firstLeft.2.1 mX12_firstLeft.2.2.1 mX12_firstLeft.2.2.2.1 mX12_firstLeft.2.2.2.2.1) = true := by decide +kernel
theorem kaX12_firstLeft : rX12_firstLeft.all (q_rck q_mt 438 mX12_firstLeft) = true := by decide +kernel
theorem kX12_firstLeft : q_mok q_mt 438 mX12_firstLeft := ⟨by decide +kernel, rfl, q_in_mem kcX12_firstLeft, Nat.le_of_ble_eq_true rfl, kaX12_firstLeft⟩
theorem kcX12_needs : q_in 2884 (Cond.code mX12_needs.2.1 mX12_needs.2.2.1 mX12_needs.2.2.2.1 mX12_needs.2.2.2.2.1) = true := by decide +kernel
theorem kaX12_needs : rX12_needs.all (q_rck q_mt 438 mX12_needs) = true := by decide +kernel
theorem kX12_needs : q_mok q_mt 438 mX12_needs := ⟨by decide +kernel, rfl, q_in_mem kcX12_needs, Nat.le_of_ble_eq_true rfl, kaX12_needs⟩
theorem kcX12_swing : q_in 2892 (Cond.code mX12_swing.2.1 mX12_swing.2.2.1 mX12_swing.2.2.2.1 mX12_swing.2.2.2.2.1) = true := by decide +kernel
theorem kaX12_swing : rX12_swing.all (q_rck q_mt 438 mX12_swing) = true := by decide +kernel
theorem kX12_swing : q_mok q_mt 438 mX12_swing := ⟨by decide +kernel, rfl, q_in_mem kcX12_swing, Nat.le_of_ble_eq_true rfl, kaX12_swing⟩
theorem kcX12_bribedPoints : q_in 2904 (Cond.code mX12_bribedPoints.2.1 mX12_bribedPoints.2.2.1 mX12_bribedPoints.2.2.2.1 mX12_bribedPoints.2.2.2.2.1) = true := by decide +kernel
theorem kaX12_bribedPoints : rX12_bribedPoints.all (q_rck q_mt 438 mX12_bribedPoints) = true := by decide +kernel
theorem kX12_bribedPoints : q_mok q_mt 438 mX12_bribedPoints := ⟨by decide +kernel, rfl, q_in_mem kcX12_bribedPoints, Nat.le_of_ble_eq_true rfl, kaX12_bribedPoints⟩
theorem kcX12_panelBits : q_in 2900 (Cond.code mX12_panelBits.2.1 mX12_panelBits.2.2.1 mX12_panelBits.2.2.2.1 mX12_panelBits.2.2.2.2.1) = true := by decide +kernel
theorem kaX12_panelBits : rX12_panelBits.all (q_rck q_mt 438 mX12_panelBits) = true := by decide +kernel
theorem kX12_panelBits : q_mok q_mt 438 mX12_panelBits := ⟨by decide +kernel, rfl, q_in_mem kcX12_panelBits, Nat.le_of_ble_eq_true rfl, kaX12_panelBits⟩
theorem kcX12_bribes : q_in 2896 (Cond.code mX12_bribes.2.1 mX12_bribes.2.2.1 mX12_bribes.2.2.2.1 mX12_bribes.2.2.2.2.1) = true := by decide +kernel
theorem kaX12_bribes : rX12_bribes.all (q_rck q_mt 438 mX12_bribes) = true := by decide +kernel
theorem kX12_bribes : q_mok q_mt 438 mX12_bribes := ⟨by decide +kernel, rfl, q_in_mem kcX12_bribes, Nat.le_of_ble_eq_true rfl, kaX12_bribes⟩
theorem kcX12_middleOf : q_in 2913 (Cond.code mX12_middleOf.2.1 mX12_middleOf.2.2.1 mX12_middleOf.2.2.2.1 mX12_middleOf.2.2.2.2.1) = true := by decide +kernel
theorem kaX12_middleOf : rX12_middleOf.all (q_rck q_mt 438 mX12_middleOf) = true := by decide +kernel
theorem kX12_middleOf : q_mok q_mt 438 mX12_middleOf := ⟨by decide +kernel, rfl, q_in_mem kcX12_middleOf, Nat.le_of_ble_eq_true rfl, kaX12_middleOf⟩
theorem kcX12_bias : q_in 2908 (Cond.code mX12_bias.2.1 mX12_bias.2.2.1 mX12_bias.2.2.2.1 mX12_bias.2.2.2.2.1) = true := by decide +kernel
theorem kaX12_bias : rX12_bias.all (q_rck q_mt 438 mX12_bias) = true := by decide +kernel
theorem kX12_bias : q_mok q_mt 438 mX12_bias := ⟨by decide +kernel, rfl, q_in_mem kcX12_bias, Nat.le_of_ble_eq_true rfl, kaX12_bias⟩
theorem kcX12_alike : q_in 2917 (Cond.code mX12_alike.2.1 mX12_alike.2.2.1 mX12_alike.2.2.2.1 mX12_alike.2.2.2.2.1) = true := by decide +kernel
theorem kaX12_alike : rX12_alike.all (q_rck q_mt 438 mX12_alike) = true := by decide +kernel
theorem kX12_alike : q_mok q_mt 438 mX12_alike := ⟨by decide +kernel, rfl, q_in_mem kcX12_alike, Nat.le_of_ble_eq_true rfl, kaX12_alike⟩
theorem kcX12_dropped : q_in 2921 (Cond.code mX12_dropped.2.1 mX12_dropped.2.2.1 mX12_dropped.2.2.2.1 mX12_dropped.2.2.2.2.1) = true := by decide +kernel
theorem kaX12_dropped : rX12_dropped.all (q_rck q_mt 438 mX12_dropped) = true := by decide +kernel
theorem kX12_dropped : q_mok q_mt 438 mX12_dropped := ⟨by decide +kernel, rfl, q_in_mem kcX12_dropped, Nat.le_of_ble_eq_true rfl, kaX12_dropped⟩
theorem kcX12_judgesOfSort : q_in 2929 (Cond.code mX12_judgesOfSort.2.1 mX12_judgesOfSort.2.2.1 mX12_judgesOfSort.2.2.2.1 mX12_judgesOfSort.2.2.2.2.1) = true := by decide +kernel
theorem kaX12_judgesOfSort : rX12_judgesOfSort.all (q_rck q_mt 438 mX12_judgesOfSort) = true := by decide +kernel
theorem kX12_judgesOfSort : q_mok q_mt 438 mX12_judgesOfSort := ⟨by decide +kernel, rfl, q_in_mem kcX12_judgesOfSort, Nat.le_of_ble_eq_true rfl, kaX12_judgesOfSort⟩
theorem kcX12_without : q_in 2925 (Cond.code mX12_without.2.1 mX12_without.2.2.1 mX12_without.2.2.2.1 mX12_without.2.2.2.2.1) = true := by decide +kernel
theorem kaX12_without : rX12_without.all (q_rck q_mt 438 mX12_without) = true := by decide +kernel
theorem kX12_without : q_mok q_mt 438 mX12_without := ⟨by decide +kernel, rfl, q_in_mem kcX12_without, Nat.le_of_ble_eq_true rfl, kaX12_without⟩
theorem kcX12_asDrop : q_in 2933 (Cond.code mX12_asDrop.2.1 mX12_asDrop.2.2.1 mX12_asDrop.2.2.2.1 mX12_asDrop.2.2.2.2.1) = true := by decide +kernel
theorem kaX12_asDrop : rX12_asDrop.all (q_rck q_mt 438 mX12_asDrop) = true := by decide +kernel
theorem kX12_asDrop : q_mok q_mt 438 mX12_asDrop := ⟨by decide +kernel, rfl, q_in_mem kcX12_asDrop, Nat.le_of_ble_eq_true rfl, kaX12_asDrop⟩
theorem kcX12_formTotal : q_in 2941 (Cond.code mX12_formTotal.2.1 mX12_formTotal.2.2.1 mX12_formTotal.2.2.2.1 mX12_formTotal.2.2.2.2.1) = true := by decide +kernel
theorem kaX12_formTotal : rX12_formTotal.all (q_rck q_mt 438 mX12_formTotal) = true := by decide +kernel
theorem kX12_formTotal : q_mok q_mt 438 mX12_formTotal := ⟨by decide +kernel, rfl, q_in_mem kcX12_formTotal, Nat.le_of_ble_eq_true rfl, kaX12_formTotal⟩
theorem kcX12_expected : q_in 2937 (Cond.code mX12_expected.2.1 mX12_expected.2.2.1 mX12_expected.2.2.2.1 mX12_expected.2.2.2.2.1) = true := by decide +kernel
theorem kaX12_expected : rX12_expected.all (q_rck q_mt 438 mX12_expected) = true := by decide +kernel
theorem kX12_expected : q_mok q_mt 438 mX12_expected := ⟨by decide +kernel, rfl, q_in_mem kcX12_expected, Nat.le_of_ble_eq_true rfl, kaX12_expected⟩
theorem kcX12_nextCut : q_in 2949 (Cond.code mX12_nextCut.2.1 mX12_nextCut.2.2.1 mX12_nextCut.2.2.2.1 mX12_nextCut.2.2.2.2.1) = true := by decide +kernel
theorem kaX12_nextCut : rX12_nextCut.all (q_rck q_mt 438 mX12_nextCut) = true := by decide +kernel
theorem kX12_nextCut : q_mok q_mt 438 mX12_nextCut := ⟨by decide +kernel, rfl, q_in_mem kcX12_nextCut, Nat.le_of_ble_eq_true rfl, kaX12_nextCut⟩
theorem kcX12_goes : q_in 2945 (Cond.code mX12_goes.2.1 mX12_goes.2.2.1 mX12_goes.2.2.2.1 mX12_goes.2.2.2.2.1) = true := by decide +kernel
theorem kaX12_goes : rX12_goes.all (q_rck q_mt 438 mX12_goes) = true := by decide +kernel
theorem kX12_goes : q_mok q_mt 438 mX12_goes := ⟨by decide +kernel, rfl, q_in_mem kcX12_goes, Nat.le_of_ble_eq_true rfl, kaX12_goes⟩
theorem kcX12_order : q_in 2953 (Cond.code mX12_order.2.1 mX12_order.2.2.1 mX12_order.2.2.2.1 mX12_order.2.2.2.2.1) = true := by decide +kernel
theorem kaX12_order : rX12_order.all (q_rck q_mt 438 mX12_order) = true := by decide +kernel
theorem kX12_order : q_mok q_mt 438 mX12_order := ⟨by decide +kernel, rfl, q_in_mem kcX12_order, Nat.le_of_ble_eq_true rfl, kaX12_order⟩
theorem kcX12_draw : q_in 2966 (Cond.code mX12_draw.2.1 mX12_draw.2.2.1 mX12_draw.2.2.2.1 mX12_draw.2.2.2.2.1) = true := by decide +kernel
theorem kaX12_draw : rX12_draw.all (q_rck q_mt 438 mX12_draw) = true := by decide +kernel
theorem kX12_draw : q_mok q_mt 438 mX12_draw := ⟨by decide +kernel, rfl, q_in_mem kcX12_draw, Nat.le_of_ble_eq_true rfl, kaX12_draw⟩
theorem kcX12_drawsDive : q_in 2962 (Cond.code mX12_drawsDive.2.1 mX12_drawsDive.2.2.1 mX12_drawsDive.2.2.2.1 mX12_drawsDive.2.2.2.2.1) = true := by decide +kernel
theorem kaX12_drawsDive : rX12_drawsDive.all (q_rck q_mt 438 mX12_drawsDive) = true := by decide +kernel
theorem kX12_drawsDive : q_mok q_mt 438 mX12_drawsDive := ⟨by decide +kernel, rfl, q_in_mem kcX12_drawsDive, Nat.le_of_ble_eq_true rfl, kaX12_drawsDive⟩
theorem kcX12_wins : q_in 2957 (Cond.code mX12_wins.2.1 mX12_wins.2.2.1 mX12_wins.2.2.2.1 mX12_wins.2.2.2.2.1) = true := by decide +kernel
theorem kaX12_wins : rX12_wins.all (q_rck q_mt 438 mX12_wins) = true := by decide +kernel
theorem kX12_wins : q_mok q_mt 438 mX12_wins := ⟨by decide +kernel, rfl, q_in_mem kcX12_wins, Nat.le_of_ble_eq_true rfl, kaX12_wins⟩
theorem kcJ7_fill : q_in 901 (Cond.code mJ7_fill.2.1 mJ7_fill.2.2.1 mJ7_fill.2.2.2.1 mJ7_fill.2.2.2.2.1) = true := by decide +kernel
theorem kaJ7_fill : rJ7_fill.all (q_rck q_mt 438 mJ7_fill) = true := by decide +kernel
theorem kJ7_fill : q_mok q_mt 438 mJ7_fill := ⟨by decide +kernel, rfl, q_in_mem kcJ7_fill, Nat.le_of_ble_eq_true rfl, kaJ7_fill⟩
theorem kcJ6_bitCount : q_in 1293 (Cond.code mJ6_bitCount.2.1 mJ6_bitCount.2.2.1 mJ6_bitCount.2.2.2.1 mJ6_bitCount.2.2.2.2.1) = true := by decide +kernel
theorem kaJ6_bitCount : rJ6_bitCount.all (q_rck q_mt 438 mJ6_bitCount) = true := by decide +kernel
theorem kJ6_bitCount : q_mok q_mt 438 mJ6_bitCount := ⟨by decide +kernel, rfl, q_in_mem kcJ6_bitCount, Nat.le_of_ble_eq_true rfl, kaJ6_bitCount⟩
theorem kcJm_min : q_in 1283 (Cond.code mJm_min.2.1 mJm_min.2.2.1 mJm_min.2.2.2.1 mJm_min.2.2.2.2.1) = true := by decide +kernel
theorem kcJm_max : q_in 1286 (Cond.code mJm_max.2.1 mJm_max.2.2.1 mJm_max.2.2.2.1 mJm_max.2.2.2.2.1) = true := by decide +kernel
