/-! list -/
section TL
variable {L : Nat} {xs : Nat → Int32} {E : q_E} {d : Nat} {M : q_M} {t : q_T} {Q : Option Value → q_M → Prop} {P : q_M → Prop}
/-- the lists, as the class's state (cell 44) and the reference's now (cell 284) hold them -/
def i_lst (t : q_T) (M : q_M) : Prop := ∀ e, e < t 8 0 → ∀ r, r < t 0 0 → M.1 44 (6 * e + r) = M.1 284 (6 * e + r)
set_option maxRecDepth 100000 in
theorem c_X11_isCell (hC : r_C 6 M t) (hb : b_T t) {a b : Int32} (h1 : ∀ e, e < t 8 0 → a = nI e → ∀ r, 1 ≤ r → r ≤ t 0 0 → b = nI r → Q (some (.int 1)) M) (h0 : (¬ ((∃ e, e < t 8 0 ∧ a = nI e) ∧ ∃ r, 1 ≤ r ∧ r ≤ t 0 0 ∧ b = nI r)) → Q (some (.int 0)) M) : q_C q_mt (L, xs, q_shp) E nX11_isCell (d + 1) 0 0 [.ref 2, .int a, .int b] M Q := by
  refine q_inl rfl rfl 60 [] ?_
  refine d_hasEntrant hC hb (fun e he e1 => br_f (by decide) ?_) (fun h => br_t (by decide) (And.intro (Or.inl rfl) (h0 (fun z => h z.1))))
  refine d_hasRound hC hb (fun r r1 r2 e2 => br_f (by decide) (And.intro (Or.inr rfl) (h1 e he e1 r r1 r2 e2))) (fun h => br_t (by decide) (And.intro (Or.inl rfl) (h0 (fun z => h z.2))))
theorem l_ix {e r : Nat} (r1 : 1 ≤ r) : nI e * Int32.ofInt 6 + nI r - Int32.ofInt 1 = nI (6 * e + (r - 1)) := f_ix r1
theorem l_ix2 {e r : Nat} (r1 : 1 ≤ r) : Int32.ofInt 6 * nI e + nI r - Int32.ofInt 1 = nI (6 * e + (r - 1)) := by
  have e1 : Int32.ofInt 6 * nI e = nI (6 * e) := (Int32.ofNat_mul 6 e).symm
  rw [e1, nI_add, show 6 * e + r = (6 * e + (r - 1)) + 1 by omega]
  exact nI_pred _
set_option maxRecDepth 100000 in
theorem c_X11_cellOf {e r : Nat} (r1 : 1 ≤ r) (hQ : Q (some (.int (nI (6 * e + (r - 1))))) M) : q_C q_mt (L, xs, q_shp) E nX11_cellOf d 0 0 [.int (nI e), .int (nI r)] M Q := by
  refine q_inl rfl rfl 60 [] ?_
  rw [← l_ix r1] at hQ
  exact hQ
set_option maxRecDepth 100000 in
theorem c_X12_slot {e r : Nat} (r1 : 1 ≤ r) (hQ : Q (some (.int (nI (6 * e + (r - 1))))) M) : q_C q_mt (L, xs, q_shp) E nX12_slot d 0 0 [.int (nI e), .int (nI r)] M Q := by
  refine q_inl rfl rfl 60 [] ?_
  rw [← l_ix2 r1] at hQ
  exact hQ
set_option maxRecDepth 100000 in
set_option maxHeartbeats 4000000 in
theorem c_X11_list (hC : r_C 6 M t) (hb : b_T t) {a b : Int32} (h1 : ∀ e, e < t 8 0 → a = nI e → ∀ r, 1 ≤ r → r ≤ t 0 0 → b = nI r → Q (some (.int (M.1 44 (6 * e + (r - 1))))) M) (h0 : (¬ ((∃ e, e < t 8 0 ∧ a = nI e) ∧ ∃ r, 1 ≤ r ∧ r ≤ t 0 0 ∧ b = nI r)) → Q (some (.int (Int32.ofInt (-1)))) M) : q_C q_mt (L, xs, q_shp) E nX11_list (d + 2) 0 0 [.ref 2, .int a, .int b] M Q := by
  have h6 := hb.2.2.2.2.1
  have hr6 := hb.1
  refine q_inl rfl rfl 60 [] ?_
  refine c_X11_isCell hC hb (fun e he e1 r r1 r2 e2 => br_f (by decide) ?_) (fun h => br_t (by decide) (h0 h))
  have K := h1 e he e1 r r1 r2 e2
  subst e1
  subst e2
  refine c_X11_cellOf r1 ?_
  refine And.intro (show q_in0 (nI (6 * e + (r - 1))) 36 from q_n1 (by omega) (by omega)) ?_
  rw [← nI_clamp (n := 6 * e + (r - 1)) (by omega)] at K
  exact K
set_option maxRecDepth 100000 in
set_option maxHeartbeats 4000000 in
theorem c_X12_diveOf {e r : Nat} (he : e < 6) (r1 : 1 ≤ r) (r2 : r ≤ 6) (hQ : Q (some (.int (M.1 284 (6 * e + (r - 1))))) M) : q_C q_mt (L, xs, q_shp) E nX12_diveOf (d + 1) 0 0 [.ref 271, .int (nI e), .int (nI r)] M Q := by
  refine q_inl rfl rfl 60 [] ?_
  refine c_X12_slot r1 ?_
  have e0 : Int32.ofInt 0 + nI (6 * e + (r - 1)) = nI (6 * e + (r - 1)) := by
    have e1 : Int32.ofInt 0 = nI 0 := rfl
    rw [e1, nI_add, Nat.zero_add]
  refine And.intro (show q_in0 (Int32.ofInt 0 + nI (6 * e + (r - 1))) 634 by rw [e0]; exact q_n1 (by omega) (by omega)) ?_
  rw [← nI_clamp (n := 6 * e + (r - 1)) (by omega), ← e0] at hQ
  exact hQ
set_option maxRecDepth 100000 in
set_option maxHeartbeats 4000000 in
theorem c_X12_list (hR : r_R 280 M t) (hb : b_T t) {a b : Int32} (h1 : ∀ e, e < t 8 0 → a = nI e → ∀ r, 1 ≤ r → r ≤ t 0 0 → b = nI r → Q (some (.int (M.1 284 (6 * e + (r - 1))))) M) (h0 : (¬ ((∃ e, e < t 8 0 ∧ a = nI e) ∧ ∃ r, 1 ≤ r ∧ r ≤ t 0 0 ∧ b = nI r)) → Q (some (.int (Int32.ofInt (-1)))) M) : q_C q_mt (L, xs, q_shp) E nX12_list (d + 2) 0 0 [.ref 271, .int a, .int b] M Q := by
  have h6 := hb.2.2.2.2.1
  have hr6 := hb.1
  refine q_inl rfl rfl 60 [] ?_
  refine c_X12_isEntrant hR hb (fun e he e1 => br_f (by decide) ?_) (fun h => br_t (by decide) (h0 (fun z => h z.1)))
  refine c_X12_isRound hR hb (fun r r1 r2 e2 => br_f (by decide) ?_) (fun h => br_t (by decide) (h0 (fun z => h z.2)))
  have K := h1 e he e1 r r1 r2 e2
  subst e1
  subst e2
  exact c_X12_diveOf (by omega) r1 (by omega) K
theorem o_list {a b : Int32} (hC : r_C 6 M t) (hR : r_R 280 M t) (hb : b_T t) (hl : i_lst t M) (h1 : P M) : q_op2 (L, xs, q_shp) E nX11_list nX12_list (d + 2) [.int a, .int b] M P := by
  have h6 := hb.2.2.2.2.1
  have hr6 := hb.1
  refine c_X11_list hC hb (fun e he e1 r r1 r2 e2 => ⟨_, rfl, ?_⟩) (fun h => ⟨_, rfl, c_X12_list hR hb (fun e he e1 r r1 r2 e2 => absurd ⟨⟨e, he, e1⟩, r, r1, r2, e2⟩ h) (fun _ => ⟨rfl, h1⟩)⟩)
  refine c_X12_list hR hb (fun e' he' e1' r' r1' r2' e2' => ⟨?_, h1⟩) (fun h => absurd ⟨⟨e, he, e1⟩, r, r1, r2, e2⟩ h)
  rw [e1, nI_eq (by omega) (by omega)] at e1'
  rw [e2, nI_eq (by omega) (by omega)] at e2'
  subst e1'
  subst e2'
  rw [hl e he (r - 1) (by omega)]
end TL
