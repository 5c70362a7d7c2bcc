/-! the rows are the code, the sites are the tables' (part 7) -/
theorem kcX12_behindFact : q_in 2348 (Cond.code mX12_behindFact.2.1 mX12_behindFact.2.2.1 mX12_behindFact.2.2.2.1 mX12_behindFact.2.2.2.2.1) = true := by decide +kernel
theorem kaX12_behindFact : rX12_behindFact.all (q_rck q_mt 438 mX12_behindFact) = true := by decide +kernel
theorem kX12_behindFact : q_mok q_mt 438 mX12_behindFact := ⟨by decide +kernel, rfl, q_in_mem kcX12_behindFact, Nat.le_of_ble_eq_true rfl, kaX12_behindFact⟩
theorem kcX12_readsLaw : q_in 2282 (Cond.code mX12_readsLaw.2.1 mX12_readsLaw.2.2.1 mX12_readsLaw.2.2.2.1 mX12_readsLaw.2.2.2.2.1) = true := by decide +kernel
theorem kaX12_readsLaw : rX12_readsLaw.all (q_rck q_mt 438 mX12_readsLaw) = true := by decide +kernel
theorem kX12_readsLaw : q_mok q_mt 438 mX12_readsLaw := ⟨by decide +kernel, rfl, q_in_mem kcX12_readsLaw, Nat.le_of_ble_eq_true rfl, kaX12_readsLaw⟩
theorem kcX12_isStatementHere : q_in 2199 (Cond.code mX12_isStatementHere.2.1 mX12_isStatementHere.2.2.1 mX12_isStatementHere.2.2.2.1 mX12_isStatementHere.2.2.2.2.1) = true := by decide +kernel
theorem kaX12_isStatementHere : rX12_isStatementHere.all (q_rck q_mt 438 mX12_isStatementHere) = true := by decide +kernel
theorem kX12_isStatementHere : q_mok q_mt 438 mX12_isStatementHere := ⟨by decide +kernel, rfl, q_in_mem kcX12_isStatementHere, Nat.le_of_ble_eq_true rfl, kaX12_isStatementHere⟩
theorem kcX12_readsStatement : q_in 2195 (Cond.code mX12_readsStatement.2.1 mX12_readsStatement.2.2.1 mX12_readsStatement.2.2.2.1 mX12_readsStatement.2.2.2.2.1) = true := by decide +kernel
theorem kaX12_readsStatement : rX12_readsStatement.all (q_rck q_mt 438 mX12_readsStatement) = true := by decide +kernel
theorem kX12_readsStatement : q_mok q_mt 438 mX12_readsStatement := ⟨by decide +kernel, rfl, q_in_mem kcX12_readsStatement, Nat.le_of_ble_eq_true rfl, kaX12_readsStatement⟩
theorem kcX12_draftJudges : q_in 2368 (Cond.code mX12_draftJudges.2.1 mX12_draftJudges.2.2.1 mX12_draftJudges.2.2.2.1 mX12_draftJudges.2.2.2.2.1) = true := by decide +kernel
theorem kaX12_draftJudges : rX12_draftJudges.all (q_rck q_mt 438 mX12_draftJudges) = true := by decide +kernel
theorem kX12_draftJudges : q_mok q_mt 438 mX12_draftJudges := ⟨by decide +kernel, rfl, q_in_mem kcX12_draftJudges, Nat.le_of_ble_eq_true rfl, kaX12_draftJudges⟩
theorem kcX12_isWhole : q_in 2364 (Cond.code mX12_isWhole.2.1 mX12_isWhole.2.2.1 mX12_isWhole.2.2.2.1 mX12_isWhole.2.2.2.2.1) = true := by decide +kernel
theorem kaX12_isWhole : rX12_isWhole.all (q_rck q_mt 438 mX12_isWhole) = true := by decide +kernel
theorem kX12_isWhole : q_mok q_mt 438 mX12_isWhole := ⟨by decide +kernel, rfl, q_in_mem kcX12_isWhole, Nat.le_of_ble_eq_true rfl, kaX12_isWhole⟩
theorem kcX12_meet : q_in 2170 (Cond.code mX12_meet.2.1 mX12_meet.2.2.1 mX12_meet.2.2.2.1 mX12_meet.2.2.2.2.1) = true := by decide +kernel
theorem kaX12_meet : rX12_meet.all (q_rck q_mt 438 mX12_meet) = true := by decide +kernel
theorem kX12_meet : q_mok q_mt 438 mX12_meet := ⟨by decide +kernel, rfl, q_in_mem kcX12_meet, Nat.le_of_ble_eq_true rfl, kaX12_meet⟩
theorem kcX12_wordAlone : q_in 2384 (Cond.code mX12_wordAlone.2.1 mX12_wordAlone.2.2.1 mX12_wordAlone.2.2.2.1 mX12_wordAlone.2.2.2.2.1) = true := by decide +kernel
theorem kaX12_wordAlone : rX12_wordAlone.all (q_rck q_mt 438 mX12_wordAlone) = true := by decide +kernel
theorem kX12_wordAlone : q_mok q_mt 438 mX12_wordAlone := ⟨by decide +kernel, rfl, q_in_mem kcX12_wordAlone, Nat.le_of_ble_eq_true rfl, kaX12_wordAlone⟩
theorem kcX12_namedOf : q_in 2388 (Cond.code mX12_namedOf.2.1 mX12_namedOf.2.2.1 mX12_namedOf.2.2.2.1 mX12_namedOf.2.2.2.2.1) = true := by decide +kernel
theorem kaX12_namedOf : rX12_namedOf.all (q_rck q_mt 438 mX12_namedOf) = true := by decide +kernel
theorem kX12_namedOf : q_mok q_mt 438 mX12_namedOf := ⟨by decide +kernel, rfl, q_in_mem kcX12_namedOf, Nat.le_of_ble_eq_true rfl, kaX12_namedOf⟩
theorem kcX12_named : q_in 2380 (Cond.code mX12_named.2.1 mX12_named.2.2.1 mX12_named.2.2.2.1 mX12_named.2.2.2.2.1) = true := by decide +kernel
theorem kaX12_named : rX12_named.all (q_rck q_mt 438 mX12_named) = true := by decide +kernel
theorem kX12_named : q_mok q_mt 438 mX12_named := ⟨by decide +kernel, rfl, q_in_mem kcX12_named, Nat.le_of_ble_eq_true rfl, kaX12_named⟩
theorem kcX12_slot : q_in 2411 (Cond.code mX12_slot.2.1 mX12_slot.2.2.1 mX12_slot.2.2.2.1 mX12_slot.2.2.2.2.1) = true := by decide +kernel
theorem kaX12_slot : rX12_slot.all (q_rck q_mt 438 mX12_slot) = true := by decide +kernel
theorem kX12_slot : q_mok q_mt 438 mX12_slot := ⟨by decide +kernel, rfl, q_in_mem kcX12_slot, Nat.le_of_ble_eq_true rfl, kaX12_slot⟩
theorem kcX12_begins : q_in 2376 (Cond.code mX12_begins.2.1 mX12_begins.2.2.1 mX12_begins.2.2.2.1 mX12_begins.2.2.2.2.1) = true := by decide +kernel
theorem kaX12_begins : rX12_begins.all (q_rck q_mt 438 mX12_begins) = true := by decide +kernel
theorem kX12_begins : q_mok q_mt 438 mX12_begins := ⟨by decide +kernel, rfl, q_in_mem kcX12_begins, Nat.le_of_ble_eq_true rfl, kaX12_begins⟩
theorem kcX12_laysAside : q_in 2617 (Cond.code mX12_laysAside.2.1 mX12_laysAside.2.2.1 mX12_laysAside.2.2.2.1 mX12_laysAside.2.2.2.2.1) = true := by decide +kernel
theorem kaX12_laysAside : rX12_laysAside.all (q_rck q_mt 438 mX12_laysAside) = true := by decide +kernel
theorem kX12_laysAside : q_mok q_mt 438 mX12_laysAside := ⟨by decide +kernel, rfl, q_in_mem kcX12_laysAside, Nat.le_of_ble_eq_true rfl, kaX12_laysAside⟩
theorem kcX12_laysBack : q_in 2803 (Cond.code mX12_laysBack.2.1 mX12_laysBack.2.2.1 mX12_laysBack.2.2.2.1 mX12_laysBack.2.2.2.2.1) = true := by decide +kernel
theorem kaX12_laysBack : rX12_laysBack.all (q_rck q_mt 438 mX12_laysBack) = true := by decide +kernel
theorem kX12_laysBack : q_mok q_mt 438 mX12_laysBack := ⟨by decide +kernel, rfl, q_in_mem kcX12_laysBack, Nat.le_of_ble_eq_true rfl, kaX12_laysBack⟩
theorem kcX12_remembers : q_in 2637 (Cond.code mX12_remembers.2.1 mX12_remembers.2.2.1 mX12_remembers.2.2.2.1 mX12_remembers.2.2.2.2.1) = true := by decide +kernel
theorem kaX12_remembers : rX12_remembers.all (q_rck q_mt 438 mX12_remembers) = true := by decide +kernel
theorem kX12_remembers : q_mok q_mt 438 mX12_remembers := ⟨by decide +kernel, rfl, q_in_mem kcX12_remembers, Nat.le_of_ble_eq_true rfl, kaX12_remembers⟩
theorem kcX12_acted : q_in 2633 (Cond.code mX12_acted.2.1 mX12_acted.2.2.1 mX12_acted.2.2.2.1 mX12_acted.2.2.2.2.1) = true := by decide +kernel
theorem kaX12_acted : rX12_acted.all (q_rck q_mt 438 mX12_acted) = true := by decide +kernel
theorem kX12_acted : q_mok q_mt 438 mX12_acted := ⟨by decide +kernel, rfl, q_in_mem kcX12_acted, Nat.le_of_ble_eq_true rfl, kaX12_acted⟩
theorem kcX12_undo : q_in 2392 (Cond.code mX12_undo.2.1 mX12_undo.2.2.1 mX12_undo.2.2.2.1 mX12_undo.2.2.2.2.1) = true := by decide +kernel
theorem kaX12_undo : rX12_undo.all (q_rck q_mt 438 mX12_undo) = true := by decide +kernel
theorem kX12_undo : q_mok q_mt 438 mX12_undo := ⟨by decide +kernel, rfl, q_in_mem kcX12_undo, Nat.le_of_ble_eq_true rfl, kaX12_undo⟩
theorem kcX12_keep : q_in 2396 (Cond.code mX12_keep.2.1 mX12_keep.2.2.1 mX12_keep.2.2.2.1 mX12_keep.2.2.2.2.1) = true := by decide +kernel
theorem kaX12_keep : rX12_keep.all (q_rck q_mt 438 mX12_keep) = true := by decide +kernel
theorem kX12_keep : q_mok q_mt 438 mX12_keep := ⟨by decide +kernel, rfl, q_in_mem kcX12_keep, Nat.le_of_ble_eq_true rfl, kaX12_keep⟩
theorem kcX12_back : q_in 2415 (Cond.code mX12_back.2.1 mX12_back.2.2.1 mX12_back.2.2.2.1 mX12_back.2.2.2.2.1) = true := by decide +kernel
theorem kaX12_back : rX12_back.all (q_rck q_mt 438 mX12_back) = true := by decide +kernel
theorem kX12_back : q_mok q_mt 438 mX12_back := ⟨by decide +kernel, rfl, q_in_mem kcX12_back, Nat.le_of_ble_eq_true rfl, kaX12_back⟩
theorem kcX12_givenMany : q_in 2400 (Cond.code mX12_givenMany.2.1 mX12_givenMany.2.2.1 mX12_givenMany.2.2.2.1 mX12_givenMany.2.2.2.2.1) = true := by decide +kernel
theorem kaX12_givenMany : rX12_givenMany.all (q_rck q_mt 438 mX12_givenMany) = true := by decide +kernel
theorem kX12_givenMany : q_mok q_mt 438 mX12_givenMany := ⟨by decide +kernel, rfl, q_in_mem kcX12_givenMany, Nat.le_of_ble_eq_true rfl, kaX12_givenMany⟩
theorem kcX12_isEntrant : q_in 2443 (Cond.code mX12_isEntrant.2.1 mX12_isEntrant.2.2.1 mX12_isEntrant.2.2.2.1 mX12_isEntrant.2.2.2.2.1) = true := by decide +kernel
theorem kaX12_isEntrant : rX12_isEntrant.all (q_rck q_mt 438 mX12_isEntrant) = true := by decide +kernel
theorem kX12_isEntrant : q_mok q_mt 438 mX12_isEntrant := ⟨by decide +kernel, rfl, q_in_mem kcX12_isEntrant, Nat.le_of_ble_eq_true rfl, kaX12_isEntrant⟩
theorem kcX12_isDive : q_in 2435 (Cond.code mX12_isDive.2.1 mX12_isDive.2.2.1 mX12_isDive.2.2.2.1 mX12_isDive.2.2.2.2.1) = true := by decide +kernel
theorem kaX12_isDive : rX12_isDive.all (q_rck q_mt 438 mX12_isDive) = true := by decide +kernel
theorem kX12_isDive : q_mok q_mt 438 mX12_isDive := ⟨by decide +kernel, rfl, q_in_mem kcX12_isDive, Nat.le_of_ble_eq_true rfl, kaX12_isDive⟩
theorem kcX12_isJudge : q_in 2451 (Cond.code mX12_isJudge.2.1 mX12_isJudge.2.2.1 mX12_isJudge.2.2.2.1 mX12_isJudge.2.2.2.2.1) = true := by decide +kernel
theorem kaX12_isJudge : rX12_isJudge.all (q_rck q_mt 438 mX12_isJudge) = true := by decide +kernel
theorem kX12_isJudge : q_mok q_mt 438 mX12_isJudge := ⟨by decide +kernel, rfl, q_in_mem kcX12_isJudge, Nat.le_of_ble_eq_true rfl, kaX12_isJudge⟩
theorem kcX12_isRound : q_in 2459 (Cond.code mX12_isRound.2.1 mX12_isRound.2.2.1 mX12_isRound.2.2.2.1 mX12_isRound.2.2.2.2.1) = true := by decide +kernel
theorem kaX12_isRound : rX12_isRound.all (q_rck q_mt 438 mX12_isRound) = true := by decide +kernel
theorem kX12_isRound : q_mok q_mt 438 mX12_isRound := ⟨by decide +kernel, rfl, q_in_mem kcX12_isRound, Nat.le_of_ble_eq_true rfl, kaX12_isRound⟩
theorem kcX12_isPair : q_in 2601 (Cond.code mX12_isPair.2.1 mX12_isPair.2.2.1 mX12_isPair.2.2.2.1 mX12_isPair.2.2.2.2.1) = true := by decide +kernel
theorem kaX12_isPair : rX12_isPair.all (q_rck q_mt 438 mX12_isPair) = true := by decide +kernel
theorem kX12_isPair : q_mok q_mt 438 mX12_isPair := ⟨by decide +kernel, rfl, q_in_mem kcX12_isPair, Nat.le_of_ble_eq_true rfl, kaX12_isPair⟩
theorem kcX12_groupOf : q_in 2495 (Cond.code mX12_groupOf.2.1 mX12_groupOf.2.2.1 mX12_groupOf.2.2.2.1 mX12_groupOf.2.2.2.2.1) = true := by decide +kernel
theorem kaX12_groupOf : rX12_groupOf.all (q_rck q_mt 438 mX12_groupOf) = true := by decide +kernel
theorem kX12_groupOf : q_mok q_mt 438 mX12_groupOf := ⟨by decide +kernel, rfl, q_in_mem kcX12_groupOf, Nat.le_of_ble_eq_true rfl, kaX12_groupOf⟩
theorem kcX12_degreeOf : q_in 2499 (Cond.code mX12_degreeOf.2.1 mX12_degreeOf.2.2.1 mX12_degreeOf.2.2.2.1 mX12_degreeOf.2.2.2.2.1) = true := by decide +kernel
theorem kaX12_degreeOf : rX12_degreeOf.all (q_rck q_mt 438 mX12_degreeOf) = true := by decide +kernel
theorem kX12_degreeOf : q_mok q_mt 438 mX12_degreeOf := ⟨by decide +kernel, rfl, q_in_mem kcX12_degreeOf, Nat.le_of_ble_eq_true rfl, kaX12_degreeOf⟩
theorem kcX12_sortOf : q_in 2605 (Cond.code mX12_sortOf.2.1 mX12_sortOf.2.2.1 mX12_sortOf.2.2.2.1 mX12_sortOf.2.2.2.2.1) = true := by decide +kernel
theorem kaX12_sortOf : rX12_sortOf.all (q_rck q_mt 438 mX12_sortOf) = true := by decide +kernel
theorem kX12_sortOf : q_mok q_mt 438 mX12_sortOf := ⟨by decide +kernel, rfl, q_in_mem kcX12_sortOf, Nat.le_of_ble_eq_true rfl, kaX12_sortOf⟩
theorem kcX12_judges : q_in 2597 (Cond.code mX12_judges.2.1 mX12_judges.2.2.1 mX12_judges.2.2.2.1 mX12_judges.2.2.2.2.1) = true := by decide +kernel
theorem kaX12_judges : rX12_judges.all (q_rck q_mt 438 mX12_judges) = true := by decide +kernel
theorem kX12_judges : q_mok q_mt 438 mX12_judges := ⟨by decide +kernel, rfl, q_in_mem kcX12_judges, Nat.le_of_ble_eq_true rfl, kaX12_judges⟩
theorem kcX12_judgesMany : q_in 2593 (Cond.code mX12_judgesMany.2.1 mX12_judgesMany.2.2.1 mX12_judgesMany.2.2.2.1 mX12_judgesMany.2.2.2.2.1) = true := by decide +kernel
theorem kaX12_judgesMany : rX12_judgesMany.all (q_rck q_mt 438 mX12_judgesMany) = true := by decide +kernel
theorem kX12_judgesMany : q_mok q_mt 438 mX12_judgesMany := ⟨by decide +kernel, rfl, q_in_mem kcX12_judgesMany, Nat.le_of_ble_eq_true rfl, kaX12_judgesMany⟩
theorem kcX12_diveOf : q_in 2463 (Cond.code mX12_diveOf.2.1 mX12_diveOf.2.2.1 mX12_diveOf.2.2.2.1 mX12_diveOf.2.2.2.2.1) = true := by decide +kernel
theorem kaX12_diveOf : rX12_diveOf.all (q_rck q_mt 438 mX12_diveOf) = true := by decide +kernel
theorem kX12_diveOf : q_mok q_mt 438 mX12_diveOf := ⟨by decide +kernel, rfl, q_in_mem kcX12_diveOf, Nat.le_of_ble_eq_true rfl, kaX12_diveOf⟩
theorem kcX12_isGiven : q_in 2408 (Cond.code mX12_isGiven.2.1 mX12_isGiven.2.2.1 mX12_isGiven.2.2.2.1 mX12_isGiven.2.2.2.2.1) = true := by decide +kernel
theorem kaX12_isGiven : rX12_isGiven.all (q_rck q_mt 438 mX12_isGiven) = true := by decide +kernel
theorem kX12_isGiven : q_mok q_mt 438 mX12_isGiven := ⟨by decide +kernel, rfl, q_in_mem kcX12_isGiven, Nat.le_of_ble_eq_true rfl, kaX12_isGiven⟩
theorem kcX12_hasFailed : q_in 2629 (Cond.code mX12_hasFailed.2.1 mX12_hasFailed.2.2.1 mX12_hasFailed.2.2.2.1 mX12_hasFailed.2.2.2.2.1) = true := by decide +kernel
theorem kaX12_hasFailed : rX12_hasFailed.all (q_rck q_mt 438 mX12_hasFailed) = true := by decide +kernel
theorem kX12_hasFailed : q_mok q_mt 438 mX12_hasFailed := ⟨by decide +kernel, rfl, q_in_mem kcX12_hasFailed, Nat.le_of_ble_eq_true rfl, kaX12_hasFailed⟩
theorem kcX12_isInStill : q_in 2427 (Cond.code mX12_isInStill.2.1 mX12_isInStill.2.2.1 mX12_isInStill.2.2.2.1 mX12_isInStill.2.2.2.2.1) = true := by decide +kernel
theorem kaX12_isInStill : rX12_isInStill.all (q_rck q_mt 438 mX12_isInStill) = true := by decide +kernel
theorem kX12_isInStill : q_mok q_mt 438 mX12_isInStill := ⟨by decide +kernel, rfl, q_in_mem kcX12_isInStill, Nat.le_of_ble_eq_true rfl, kaX12_isInStill⟩
theorem kcX12_inMany : q_in 2423 (Cond.code mX12_inMany.2.1 mX12_inMany.2.2.1 mX12_inMany.2.2.2.1 mX12_inMany.2.2.2.2.1) = true := by decide +kernel
theorem kaX12_inMany : rX12_inMany.all (q_rck q_mt 438 mX12_inMany) = true := by decide +kernel
theorem kX12_inMany : q_mok q_mt 438 mX12_inMany := ⟨by decide +kernel, rfl, q_in_mem kcX12_inMany, Nat.le_of_ble_eq_true rfl, kaX12_inMany⟩
theorem kcX12_givenOf : q_in 2404 (Cond.code mX12_givenOf.2.1 mX12_givenOf.2.2.1 mX12_givenOf.2.2.2.1 mX12_givenOf.2.2.2.2.1) = true := by decide +kernel
theorem kaX12_givenOf : rX12_givenOf.all (q_rck q_mt 438 mX12_givenOf) = true := by decide +kernel
theorem kX12_givenOf : q_mok q_mt 438 mX12_givenOf := ⟨by decide +kernel, rfl, q_in_mem kcX12_givenOf, Nat.le_of_ble_eq_true rfl, kaX12_givenOf⟩
theorem kcX12_look : q_in 2419 (Cond.code mX12_look.2.1 mX12_look.2.2.1 mX12_look.2.2.2.1 mX12_look.2.2.2.2.1) = true := by decide +kernel
theorem kaX12_look : rX12_look.all (q_rck q_mt 438 mX12_look) = true := by decide +kernel
theorem kX12_look : q_mok q_mt 438 mX12_look := ⟨by decide +kernel, rfl, q_in_mem kcX12_look, Nat.le_of_ble_eq_true rfl, kaX12_look⟩
theorem kcX12_dive : q_in 2431 (Cond.code mX12_dive.2.1 mX12_dive.2.2.1 mX12_dive.2.2.2.1 mX12_dive.2.2.2.2.1) = true := by decide +kernel
theorem kaX12_dive : rX12_dive.all (q_rck q_mt 438 mX12_dive) = true := by decide +kernel
theorem kX12_dive : q_mok q_mt 438 mX12_dive := ⟨by decide +kernel, rfl, q_in_mem kcX12_dive, Nat.le_of_ble_eq_true rfl, kaX12_dive⟩
theorem kcX12_entrant : q_in 2439 (Cond.code mX12_entrant.2.1 mX12_entrant.2.2.1 mX12_entrant.2.2.2.1 mX12_entrant.2.2.2.2.1) = true := by decide +kernel
theorem kaX12_entrant : rX12_entrant.all (q_rck q_mt 438 mX12_entrant) = true := by decide +kernel
theorem kX12_entrant : q_mok q_mt 438 mX12_entrant := ⟨by decide +kernel, rfl, q_in_mem kcX12_entrant, Nat.le_of_ble_eq_true rfl, kaX12_entrant⟩
theorem kcX12_judge : q_in 2447 (Cond.code mX12_judge.2.1 mX12_judge.2.2.1 mX12_judge.2.2.2.1 mX12_judge.2.2.2.2.1) = true := by decide +kernel
theorem kaX12_judge : rX12_judge.all (q_rck q_mt 438 mX12_judge) = true := by decide +kernel
theorem kX12_judge : q_mok q_mt 438 mX12_judge := ⟨by decide +kernel, rfl, q_in_mem kcX12_judge, Nat.le_of_ble_eq_true rfl, kaX12_judge⟩
