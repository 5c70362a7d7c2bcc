/-! what was told, as both sides hold it -/
section TD
variable {L : Nat} {xs : Nat → Int32} {E : q_E} {d : Nat} {M : q_M} {Q : Option Value → q_M → Prop}
set_option maxRecDepth 100000 in
theorem c_X12_isIn {v lo hi : Int32} (h1 : lo ≤ v → v ≤ hi → Q (some (.int 1)) M) (h0 : ¬ (lo ≤ v ∧ v ≤ hi) → Q (some (.int 0)) M) : q_C q_mt (L, xs, q_shp) E nX12_isIn d 0 0 [.int v, .int lo, .int hi] M Q := by
  refine q_inl rfl rfl 60 [] ?_
  refine And.intro (fun q => And.intro (Or.inl rfl) (h0 (fun z => Int32.not_le.mpr q z.1))) (fun q => And.intro (fun q2 => And.intro (Or.inl rfl) (h0 (fun z => Int32.not_le.mpr q2 z.2))) (fun q2 => And.intro (Or.inr rfl) (h1 (Int32.not_lt.mp q) (Int32.not_lt.mp q2))))
set_option maxRecDepth 100000 in
theorem c_X2_hasJudge {j : Int32} (h1 : 0 ≤ j → j < M.1 6 2 → Q (some (.int 1)) M) (h0 : ¬ (0 ≤ j ∧ j < M.1 6 2) → Q (some (.int 0)) M) : q_C q_mt (L, xs, q_shp) E nX2_hasJudge d 0 0 [.ref 6, .int j] M Q := by
  refine q_inl rfl rfl 60 [] ?_
  exact And.intro (fun q => And.intro (Or.inl rfl) (h0 (fun z => Int32.not_le.mpr q z.1))) (fun q => And.intro (fun q2 => And.intro (Or.inl rfl) (h0 (fun z => Int32.not_lt.mpr q2 z.2))) (fun q2 => And.intro (Or.inr rfl) (h1 (Int32.not_lt.mp q) (Int32.not_le.mp q2))))
set_option maxRecDepth 100000 in
theorem c_X2_hasDive {j : Int32} (h1 : 0 ≤ j → j < M.1 6 5 → Q (some (.int 1)) M) (h0 : ¬ (0 ≤ j ∧ j < M.1 6 5) → Q (some (.int 0)) M) : q_C q_mt (L, xs, q_shp) E nX2_hasDive d 0 0 [.ref 6, .int j] M Q := by
  refine q_inl rfl rfl 60 [] ?_
  exact And.intro (fun q => And.intro (Or.inl rfl) (h0 (fun z => Int32.not_le.mpr q z.1))) (fun q => And.intro (fun q2 => And.intro (Or.inl rfl) (h0 (fun z => Int32.not_lt.mpr q2 z.2))) (fun q2 => And.intro (Or.inr rfl) (h1 (Int32.not_lt.mp q) (Int32.not_le.mp q2))))
set_option maxRecDepth 100000 in
theorem c_X2_hasEntrant {j : Int32} (h1 : 0 ≤ j → j < M.1 6 9 → Q (some (.int 1)) M) (h0 : ¬ (0 ≤ j ∧ j < M.1 6 9) → Q (some (.int 0)) M) : q_C q_mt (L, xs, q_shp) E nX2_hasEntrant d 0 0 [.ref 6, .int j] M Q := by
  refine q_inl rfl rfl 60 [] ?_
  exact And.intro (fun q => And.intro (Or.inl rfl) (h0 (fun z => Int32.not_le.mpr q z.1))) (fun q => And.intro (fun q2 => And.intro (Or.inl rfl) (h0 (fun z => Int32.not_lt.mpr q2 z.2))) (fun q2 => And.intro (Or.inr rfl) (h1 (Int32.not_lt.mp q) (Int32.not_le.mp q2))))
set_option maxRecDepth 100000 in
theorem c_X2_hasRound {j : Int32} (h1 : 1 ≤ j → j ≤ M.1 6 0 → Q (some (.int 1)) M) (h0 : ¬ (1 ≤ j ∧ j ≤ M.1 6 0) → Q (some (.int 0)) M) : q_C q_mt (L, xs, q_shp) E nX2_hasRound d 0 0 [.ref 6, .int j] M Q := by
  refine q_inl rfl rfl 60 [] ?_
  exact And.intro (fun q => And.intro (Or.inl rfl) (h0 (fun z => Int32.not_le.mpr q z.1))) (fun q => And.intro (fun q2 => And.intro (Or.inl rfl) (h0 (fun z => Int32.not_le.mpr q2 z.2))) (fun q2 => And.intro (Or.inr rfl) (h1 (Int32.not_lt.mp q) (Int32.not_lt.mp q2))))
end TD
