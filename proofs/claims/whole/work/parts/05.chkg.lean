/-! the rows are the code, the sites are the tables' (part 6) -/
theorem kcX12_isFine : q_in 2223 (Cond.code mX12_isFine.2.1 mX12_isFine.2.2.1 mX12_isFine.2.2.2.1 mX12_isFine.2.2.2.2.1) = true := by decide +kernel
theorem kaX12_isFine : rX12_isFine.all (q_rck q_mt 438 mX12_isFine) = true := by decide +kernel
theorem kX12_isFine : q_mok q_mt 438 mX12_isFine := ⟨by decide +kernel, rfl, q_in_mem kcX12_isFine, Nat.le_of_ble_eq_true rfl, kaX12_isFine⟩
theorem kcX12_wrongsAt : q_in 2211 (Cond.code mX12_wrongsAt.2.1 mX12_wrongsAt.2.2.1 mX12_wrongsAt.2.2.2.1 mX12_wrongsAt.2.2.2.2.1) = true := by decide +kernel
theorem kaX12_wrongsAt : rX12_wrongsAt.all (q_rck q_mt 438 mX12_wrongsAt) = true := by decide +kernel
theorem kX12_wrongsAt : q_mok q_mt 438 mX12_wrongsAt := ⟨by decide +kernel, rfl, q_in_mem kcX12_wrongsAt, Nat.le_of_ble_eq_true rfl, kaX12_wrongsAt⟩
theorem kcX12_wrongs : q_in 2207 (Cond.code mX12_wrongs.2.1 mX12_wrongs.2.2.1 mX12_wrongs.2.2.2.1 mX12_wrongs.2.2.2.2.1) = true := by decide +kernel
theorem kaX12_wrongs : rX12_wrongs.all (q_rck q_mt 438 mX12_wrongs) = true := by decide +kernel
theorem kX12_wrongs : q_mok q_mt 438 mX12_wrongs := ⟨by decide +kernel, rfl, q_in_mem kcX12_wrongs, Nat.le_of_ble_eq_true rfl, kaX12_wrongs⟩
theorem kcX12_isWordHere : q_in 2203 (Cond.code mX12_isWordHere.2.1 mX12_isWordHere.2.2.1 mX12_isWordHere.2.2.2.1 mX12_isWordHere.2.2.2.2.1) = true := by decide +kernel
theorem kaX12_isWordHere : rX12_isWordHere.all (q_rck q_mt 438 mX12_isWordHere) = true := by decide +kernel
theorem kX12_isWordHere : q_mok q_mt 438 mX12_isWordHere := ⟨by decide +kernel, rfl, q_in_mem kcX12_isWordHere, Nat.le_of_ble_eq_true rfl, kaX12_isWordHere⟩
theorem kcX12_takesWord : q_in 2234 (Cond.code mX12_takesWord.2.1 mX12_takesWord.2.2.1 mX12_takesWord.2.2.2.1 mX12_takesWord.2.2.2.2.1) = true := by decide +kernel
theorem kaX12_takesWord : rX12_takesWord.all (q_rck q_mt 438 mX12_takesWord) = true := by decide +kernel
theorem kX12_takesWord : q_mok q_mt 438 mX12_takesWord := ⟨by decide +kernel, rfl, q_in_mem kcX12_takesWord, Nat.le_of_ble_eq_true rfl, kaX12_takesWord⟩
theorem kcX12_mustWord : q_in 2230 (Cond.code mX12_mustWord.2.1 mX12_mustWord.2.2.1 mX12_mustWord.2.2.2.1 mX12_mustWord.2.2.2.2.1) = true := by decide +kernel
theorem kaX12_mustWord : rX12_mustWord.all (q_rck q_mt 438 mX12_mustWord) = true := by decide +kernel
theorem kX12_mustWord : q_mok q_mt 438 mX12_mustWord := ⟨by decide +kernel, rfl, q_in_mem kcX12_mustWord, Nat.le_of_ble_eq_true rfl, kaX12_mustWord⟩
theorem kcX12_isSignHere : q_in 2298 (Cond.code mX12_isSignHere.2.1 mX12_isSignHere.2.2.1 mX12_isSignHere.2.2.2.1 mX12_isSignHere.2.2.2.2.1) = true := by decide +kernel
theorem kaX12_isSignHere : rX12_isSignHere.all (q_rck q_mt 438 mX12_isSignHere) = true := by decide +kernel
theorem kX12_isSignHere : q_mok q_mt 438 mX12_isSignHere := ⟨by decide +kernel, rfl, q_in_mem kcX12_isSignHere, Nat.le_of_ble_eq_true rfl, kaX12_isSignHere⟩
theorem kcX12_mustSign : q_in 2360 (Cond.code mX12_mustSign.2.1 mX12_mustSign.2.2.1 mX12_mustSign.2.2.2.1 mX12_mustSign.2.2.2.2.1) = true := by decide +kernel
theorem kaX12_mustSign : rX12_mustSign.all (q_rck q_mt 438 mX12_mustSign) = true := by decide +kernel
theorem kX12_mustSign : q_mok q_mt 438 mX12_mustSign := ⟨by decide +kernel, rfl, q_in_mem kcX12_mustSign, Nat.le_of_ble_eq_true rfl, kaX12_mustSign⟩
theorem kcX12_isNameHere : q_in 2254 (Cond.code mX12_isNameHere.2.1 mX12_isNameHere.2.2.1 mX12_isNameHere.2.2.2.1 mX12_isNameHere.2.2.2.2.1) = true := by decide +kernel
theorem kaX12_isNameHere : rX12_isNameHere.all (q_rck q_mt 438 mX12_isNameHere) = true := by decide +kernel
theorem kX12_isNameHere : q_mok q_mt 438 mX12_isNameHere := ⟨by decide +kernel, rfl, q_in_mem kcX12_isNameHere, Nat.le_of_ble_eq_true rfl, kaX12_isNameHere⟩
theorem kcX12_numberHere : q_in 2219 (Cond.code mX12_numberHere.2.1 mX12_numberHere.2.2.1 mX12_numberHere.2.2.2.1 mX12_numberHere.2.2.2.2.1) = true := by decide +kernel
theorem kaX12_numberHere : rX12_numberHere.all (q_rck q_mt 438 mX12_numberHere) = true := by decide +kernel
theorem kX12_numberHere : q_mok q_mt 438 mX12_numberHere := ⟨by decide +kernel, rfl, q_in_mem kcX12_numberHere, Nat.le_of_ble_eq_true rfl, kaX12_numberHere⟩
theorem kcX12_fault : q_in 2166 (Cond.code mX12_fault.2.1 mX12_fault.2.2.1 mX12_fault.2.2.2.1 mX12_fault.2.2.2.2.1) = true := by decide +kernel
theorem kaX12_fault : rX12_fault.all (q_rck q_mt 438 mX12_fault) = true := by decide +kernel
theorem kX12_fault : q_mok q_mt 438 mX12_fault := ⟨by decide +kernel, rfl, q_in_mem kcX12_fault, Nat.le_of_ble_eq_true rfl, kaX12_fault⟩
theorem kcX12_hasRead : q_in 2372 (Cond.code mX12_hasRead.2.1 mX12_hasRead.2.2.1 mX12_hasRead.2.2.2.1 mX12_hasRead.2.2.2.2.1) = true := by decide +kernel
theorem kaX12_hasRead : rX12_hasRead.all (q_rck q_mt 438 mX12_hasRead) = true := by decide +kernel
theorem kX12_hasRead : q_mok q_mt 438 mX12_hasRead := ⟨by decide +kernel, rfl, q_in_mem kcX12_hasRead, Nat.le_of_ble_eq_true rfl, kaX12_hasRead⟩
theorem kcX12_draftNamed : q_in 2258 (Cond.code mX12_draftNamed.2.1 mX12_draftNamed.2.2.1 mX12_draftNamed.2.2.2.1 mX12_draftNamed.2.2.2.2.1) = true := by decide +kernel
theorem kaX12_draftNamed : rX12_draftNamed.all (q_rck q_mt 438 mX12_draftNamed) = true := by decide +kernel
theorem kX12_draftNamed : q_mok q_mt 438 mX12_draftNamed := ⟨by decide +kernel, rfl, q_in_mem kcX12_draftNamed, Nat.le_of_ble_eq_true rfl, kaX12_draftNamed⟩
theorem kcX12_newName : q_in 2250 (Cond.code mX12_newName.2.1 mX12_newName.2.2.1 mX12_newName.2.2.2.1 mX12_newName.2.2.2.2.1) = true := by decide +kernel
theorem kaX12_newName : rX12_newName.all (q_rck q_mt 438 mX12_newName) = true := by decide +kernel
theorem kX12_newName : q_mok q_mt 438 mX12_newName := ⟨by decide +kernel, rfl, q_in_mem kcX12_newName, Nat.le_of_ble_eq_true rfl, kaX12_newName⟩
theorem kcX12_entrantHere : q_in 2270 (Cond.code mX12_entrantHere.2.1 mX12_entrantHere.2.2.1 mX12_entrantHere.2.2.2.1 mX12_entrantHere.2.2.2.2.1) = true := by decide +kernel
theorem kaX12_entrantHere : rX12_entrantHere.all (q_rck q_mt 438 mX12_entrantHere) = true := by decide +kernel
theorem kX12_entrantHere : q_mok q_mt 438 mX12_entrantHere := ⟨by decide +kernel, rfl, q_in_mem kcX12_entrantHere, Nat.le_of_ble_eq_true rfl, kaX12_entrantHere⟩
theorem kcX12_readsRounds : q_in 2215 (Cond.code mX12_readsRounds.2.1 mX12_readsRounds.2.2.1 mX12_readsRounds.2.2.2.1 mX12_readsRounds.2.2.2.2.1) = true := by decide +kernel
theorem kaX12_readsRounds : rX12_readsRounds.all (q_rck q_mt 438 mX12_readsRounds) = true := by decide +kernel
theorem kX12_readsRounds : q_mok q_mt 438 mX12_readsRounds := ⟨by decide +kernel, rfl, q_in_mem kcX12_readsRounds, Nat.le_of_ble_eq_true rfl, kaX12_readsRounds⟩
theorem kcX12_oneMore : q_in 2242 (Cond.code mX12_oneMore.2.1 mX12_oneMore.2.2.1 mX12_oneMore.2.2.2.1 mX12_oneMore.2.2.2.2.1) = true := by decide +kernel
theorem kaX12_oneMore : rX12_oneMore.all (q_rck q_mt 438 mX12_oneMore) = true := by decide +kernel
theorem kX12_oneMore : q_mok q_mt 438 mX12_oneMore := ⟨by decide +kernel, rfl, q_in_mem kcX12_oneMore, Nat.le_of_ble_eq_true rfl, kaX12_oneMore⟩
theorem kcX12_readsJudge : q_in 2238 (Cond.code mX12_readsJudge.2.1 mX12_readsJudge.2.2.1 mX12_readsJudge.2.2.2.1 mX12_readsJudge.2.2.2.2.1) = true := by decide +kernel
theorem kaX12_readsJudge : rX12_readsJudge.all (q_rck q_mt 438 mX12_readsJudge) = true := by decide +kernel
theorem kX12_readsJudge : q_mok q_mt 438 mX12_readsJudge := ⟨by decide +kernel, rfl, q_in_mem kcX12_readsJudge, Nat.le_of_ble_eq_true rfl, kaX12_readsJudge⟩
theorem kcX12_readsDive : q_in 2246 (Cond.code mX12_readsDive.2.1 mX12_readsDive.2.2.1 mX12_readsDive.2.2.2.1 mX12_readsDive.2.2.2.2.1) = true := by decide +kernel
theorem kaX12_readsDive : rX12_readsDive.all (q_rck q_mt 438 mX12_readsDive) = true := by decide +kernel
theorem kX12_readsDive : q_mok q_mt 438 mX12_readsDive := ⟨by decide +kernel, rfl, q_in_mem kcX12_readsDive, Nat.le_of_ble_eq_true rfl, kaX12_readsDive⟩
theorem kcX12_readsEntrant : q_in 2262 (Cond.code mX12_readsEntrant.2.1 mX12_readsEntrant.2.2.1 mX12_readsEntrant.2.2.2.1 mX12_readsEntrant.2.2.2.2.1) = true := by decide +kernel
theorem kaX12_readsEntrant : rX12_readsEntrant.all (q_rck q_mt 438 mX12_readsEntrant) = true := by decide +kernel
theorem kX12_readsEntrant : q_mok q_mt 438 mX12_readsEntrant := ⟨by decide +kernel, rfl, q_in_mem kcX12_readsEntrant, Nat.le_of_ble_eq_true rfl, kaX12_readsEntrant⟩
theorem kcX12_readsList : q_in 2266 (Cond.code mX12_readsList.2.1 mX12_readsList.2.2.1 mX12_readsList.2.2.2.1 mX12_readsList.2.2.2.2.1) = true := by decide +kernel
theorem kaX12_readsList : rX12_readsList.all (q_rck q_mt 438 mX12_readsList) = true := by decide +kernel
theorem kX12_readsList : q_mok q_mt 438 mX12_readsList := ⟨by decide +kernel, rfl, q_in_mem kcX12_readsList, Nat.le_of_ble_eq_true rfl, kaX12_readsList⟩
theorem kcX12_isListed : q_in 2274 (Cond.code mX12_isListed.2.1 mX12_isListed.2.2.1 mX12_isListed.2.2.2.1 mX12_isListed.2.2.2.2.1) = true := by decide +kernel
theorem kaX12_isListed : rX12_isListed.all (q_rck q_mt 438 mX12_isListed) = true := by decide +kernel
theorem kX12_isListed : q_mok q_mt 438 mX12_isListed := ⟨by decide +kernel, rfl, q_in_mem kcX12_isListed, Nat.le_of_ble_eq_true rfl, kaX12_isListed⟩
theorem kcX12_readsForm : q_in 2278 (Cond.code mX12_readsForm.2.1 mX12_readsForm.2.2.1 mX12_readsForm.2.2.2.1 mX12_readsForm.2.2.2.2.1) = true := by decide +kernel
theorem kaX12_readsForm : rX12_readsForm.all (q_rck q_mt 438 mX12_readsForm) = true := by decide +kernel
theorem kX12_readsForm : q_mok q_mt 438 mX12_readsForm := ⟨by decide +kernel, rfl, q_in_mem kcX12_readsForm, Nat.le_of_ble_eq_true rfl, kaX12_readsForm⟩
theorem kcX12_readsCut : q_in 2356 (Cond.code mX12_readsCut.2.1 mX12_readsCut.2.2.1 mX12_readsCut.2.2.2.1 mX12_readsCut.2.2.2.2.1) = true := by decide +kernel
theorem kaX12_readsCut : rX12_readsCut.all (q_rck q_mt 438 mX12_readsCut) = true := by decide +kernel
theorem kX12_readsCut : q_mok q_mt 438 mX12_readsCut := ⟨by decide +kernel, rfl, q_in_mem kcX12_readsCut, Nat.le_of_ble_eq_true rfl, kaX12_readsCut⟩
theorem kcX12_emits : q_in 2310 (Cond.code mX12_emits.2.1 mX12_emits.2.2.1 mX12_emits.2.2.2.1 mX12_emits.2.2.2.2.1) = true := by decide +kernel
theorem kaX12_emits : rX12_emits.all (q_rck q_mt 438 mX12_emits) = true := by decide +kernel
theorem kX12_emits : q_mok q_mt 438 mX12_emits := ⟨by decide +kernel, rfl, q_in_mem kcX12_emits, Nat.le_of_ble_eq_true rfl, kaX12_emits⟩
theorem kcX12_topOfPile : q_in 2329 (Cond.code mX12_topOfPile.2.1 mX12_topOfPile.2.2.1 mX12_topOfPile.2.2.2.1 mX12_topOfPile.2.2.2.2.1) = true := by decide +kernel
theorem kaX12_topOfPile : rX12_topOfPile.all (q_rck q_mt 438 mX12_topOfPile) = true := by decide +kernel
theorem kX12_topOfPile : q_mok q_mt 438 mX12_topOfPile := ⟨by decide +kernel, rfl, q_in_mem kcX12_topOfPile, Nat.le_of_ble_eq_true rfl, kaX12_topOfPile⟩
theorem kcX12_piles : q_in 2294 (Cond.code mX12_piles.2.1 mX12_piles.2.2.1 mX12_piles.2.2.2.1 mX12_piles.2.2.2.2.1) = true := by decide +kernel
theorem kaX12_piles : rX12_piles.all (q_rck q_mt 438 mX12_piles) = true := by decide +kernel
theorem kX12_piles : q_mok q_mt 438 mX12_piles := ⟨by decide +kernel, rfl, q_in_mem kcX12_piles, Nat.le_of_ble_eq_true rfl, kaX12_piles⟩
theorem kcX12_drops : q_in 2333 (Cond.code mX12_drops.2.1 mX12_drops.2.2.1 mX12_drops.2.2.2.1 mX12_drops.2.2.2.2.1) = true := by decide +kernel
theorem kaX12_drops : rX12_drops.all (q_rck q_mt 438 mX12_drops) = true := by decide +kernel
theorem kX12_drops : q_mok q_mt 438 mX12_drops := ⟨by decide +kernel, rfl, q_in_mem kcX12_drops, Nat.le_of_ble_eq_true rfl, kaX12_drops⟩
theorem kcX12_opensHere : q_in 2290 (Cond.code mX12_opensHere.2.1 mX12_opensHere.2.2.1 mX12_opensHere.2.2.2.1 mX12_opensHere.2.2.2.2.1) = true := by decide +kernel
theorem kaX12_opensHere : rX12_opensHere.all (q_rck q_mt 438 mX12_opensHere) = true := by decide +kernel
theorem kX12_opensHere : q_mok q_mt 438 mX12_opensHere := ⟨by decide +kernel, rfl, q_in_mem kcX12_opensHere, Nat.le_of_ble_eq_true rfl, kaX12_opensHere⟩
theorem kcX12_rankOf : q_in 2321 (Cond.code mX12_rankOf.2.1 mX12_rankOf.2.2.1 mX12_rankOf.2.2.2.1 mX12_rankOf.2.2.2.2.1) = true := by decide +kernel
theorem kaX12_rankOf : rX12_rankOf.all (q_rck q_mt 438 mX12_rankOf) = true := by decide +kernel
theorem kX12_rankOf : q_mok q_mt 438 mX12_rankOf := ⟨by decide +kernel, rfl, q_in_mem kcX12_rankOf, Nat.le_of_ble_eq_true rfl, kaX12_rankOf⟩
theorem kcX12_settles : q_in 2325 (Cond.code mX12_settles.2.1 mX12_settles.2.2.1 mX12_settles.2.2.2.1 mX12_settles.2.2.2.2.1) = true := by decide +kernel
theorem kaX12_settles : rX12_settles.all (q_rck q_mt 438 mX12_settles) = true := by decide +kernel
theorem kX12_settles : q_mok q_mt 438 mX12_settles := ⟨by decide +kernel, rfl, q_in_mem kcX12_settles, Nat.le_of_ble_eq_true rfl, kaX12_settles⟩
theorem kcX12_settlesTests : q_in 2352 (Cond.code mX12_settlesTests.2.1 mX12_settlesTests.2.2.1 mX12_settlesTests.2.2.2.1 mX12_settlesTests.2.2.2.2.1) = true := by decide +kernel
theorem kaX12_settlesTests : rX12_settlesTests.all (q_rck q_mt 438 mX12_settlesTests) = true := by decide +kernel
theorem kX12_settlesTests : q_mok q_mt 438 mX12_settlesTests := ⟨by decide +kernel, rfl, q_in_mem kcX12_settlesTests, Nat.le_of_ble_eq_true rfl, kaX12_settlesTests⟩
theorem kcX12_closesNots : q_in 2344 (Cond.code mX12_closesNots.2.1 mX12_closesNots.2.2.1 mX12_closesNots.2.2.2.1 mX12_closesNots.2.2.2.2.1) = true := by decide +kernel
theorem kaX12_closesNots : rX12_closesNots.all (q_rck q_mt 438 mX12_closesNots) = true := by decide +kernel
theorem kX12_closesNots : q_mok q_mt 438 mX12_closesNots := ⟨by decide +kernel, rfl, q_in_mem kcX12_closesNots, Nat.le_of_ble_eq_true rfl, kaX12_closesNots⟩
theorem kcX12_valueHere : q_in 2306 (Cond.code mX12_valueHere.2.1 mX12_valueHere.2.2.1 mX12_valueHere.2.2.2.1 mX12_valueHere.2.2.2.2.1) = true := by decide +kernel
theorem kaX12_valueHere : rX12_valueHere.all (q_rck q_mt 438 mX12_valueHere) = true := by decide +kernel
theorem kX12_valueHere : q_mok q_mt 438 mX12_valueHere := ⟨by decide +kernel, rfl, q_in_mem kcX12_valueHere, Nat.le_of_ble_eq_true rfl, kaX12_valueHere⟩
theorem kcX12_joinHere : q_in 2318 (Cond.code mX12_joinHere.2.1 mX12_joinHere.2.2.1 mX12_joinHere.2.2.2.1 mX12_joinHere.2.2.2.2.1) = true := by decide +kernel
theorem kaX12_joinHere : rX12_joinHere.all (q_rck q_mt 438 mX12_joinHere) = true := by decide +kernel
theorem kX12_joinHere : q_mok q_mt 438 mX12_joinHere := ⟨by decide +kernel, rfl, q_in_mem kcX12_joinHere, Nat.le_of_ble_eq_true rfl, kaX12_joinHere⟩
theorem kcX12_isCompare : q_in 2340 (Cond.code mX12_isCompare.2.1 mX12_isCompare.2.2.1 mX12_isCompare.2.2.2.1 mX12_isCompare.2.2.2.2.1) = true := by decide +kernel
theorem kaX12_isCompare : rX12_isCompare.all (q_rck q_mt 438 mX12_isCompare) = true := by decide +kernel
theorem kX12_isCompare : q_mok q_mt 438 mX12_isCompare := ⟨by decide +kernel, rfl, q_in_mem kcX12_isCompare, Nat.le_of_ble_eq_true rfl, kaX12_isCompare⟩
theorem kcX12_factBegins : q_in 2286 (Cond.code mX12_factBegins.2.1 mX12_factBegins.2.2.1 mX12_factBegins.2.2.2.1 mX12_factBegins.2.2.2.2.1) = true := by decide +kernel
theorem kaX12_factBegins : rX12_factBegins.all (q_rck q_mt 438 mX12_factBegins) = true := by decide +kernel
theorem kX12_factBegins : q_mok q_mt 438 mX12_factBegins := ⟨by decide +kernel, rfl, q_in_mem kcX12_factBegins, Nat.le_of_ble_eq_true rfl, kaX12_factBegins⟩
theorem kcX12_valueBegins : q_in 2302 (Cond.code mX12_valueBegins.2.1 mX12_valueBegins.2.2.1 mX12_valueBegins.2.2.2.1 mX12_valueBegins.2.2.2.2.1) = true := by decide +kernel
theorem kaX12_valueBegins : rX12_valueBegins.all (q_rck q_mt 438 mX12_valueBegins) = true := by decide +kernel
theorem kX12_valueBegins : q_mok q_mt 438 mX12_valueBegins := ⟨by decide +kernel, rfl, q_in_mem kcX12_valueBegins, Nat.le_of_ble_eq_true rfl, kaX12_valueBegins⟩
theorem kcX12_behindValue : q_in 2314 (Cond.code mX12_behindValue.2.1 mX12_behindValue.2.2.1 mX12_behindValue.2.2.2.1 mX12_behindValue.2.2.2.2.1) = true := by decide +kernel
theorem kaX12_behindValue : rX12_behindValue.all (q_rck q_mt 438 mX12_behindValue) = true := by decide +kernel
theorem kX12_behindValue : q_mok q_mt 438 mX12_behindValue := ⟨by decide +kernel, rfl, q_in_mem kcX12_behindValue, Nat.le_of_ble_eq_true rfl, kaX12_behindValue⟩
theorem kcX12_closesRound : q_in 2337 (Cond.code mX12_closesRound.2.1 mX12_closesRound.2.2.1 mX12_closesRound.2.2.2.1 mX12_closesRound.2.2.2.2.1) = true := by decide +kernel
theorem kaX12_closesRound : rX12_closesRound.all (q_rck q_mt 438 mX12_closesRound) = true := by decide +kernel
theorem kX12_closesRound : q_mok q_mt 438 mX12_closesRound := ⟨by decide +kernel, rfl, q_in_mem kcX12_closesRound, Nat.le_of_ble_eq_true rfl, kaX12_closesRound⟩
