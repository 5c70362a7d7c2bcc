/-! how many are given: the reference's isGiven and givenOf -/
section TG
variable {L : Nat} {xs : Nat → Int32} {E : q_E} {d : Nat} {M : q_M} {t : q_T} {Q : Option Value → q_M → Prop} {P : q_M → Prop}
def g_fl (M : q_M) (e r : Nat) : Nat := if M.1 284 (576 + (6 * e + r)) = 1 then 1 else 0
def g_cnt (M : q_M) (e : Nat) : Nat → Nat
  | 0 => 0
  | r + 1 => g_cnt M e r + g_fl M e r
theorem g_cnt_le (M : q_M) (e : Nat) : ∀ r, g_cnt M e r ≤ r
  | 0 => Nat.le_refl _
  | r + 1 => by
    have := g_cnt_le M e r
    unfold g_cnt g_fl
    split <;> omega
set_option maxRecDepth 100000 in
set_option maxHeartbeats 4000000 in
theorem c_X12_isGiven {e r : Nat} (he : e < 6) (r1 : 1 ≤ r) (r2 : r ≤ 6) (hQ : Q (some (.int (nI (g_fl M e (r - 1))))) M) : q_C q_mt (L, xs, q_shp) E nX12_isGiven (d + 1) 0 0 [.ref 271, .int (nI e), .int (nI r)] M Q := by
  refine q_inl rfl rfl 60 [] ?_
  refine c_X12_slot r1 ?_
  have e0 : Int32.ofInt 576 + nI (6 * e + (r - 1)) = nI (576 + (6 * e + (r - 1))) := nI_add 576 _
  have hcl : (Int32.ofInt 576 + nI (6 * e + (r - 1))).toNatClampNeg = 576 + (6 * e + (r - 1)) := by rw [e0]; exact nI_clamp (by omega)
  refine And.intro (show q_in0 (Int32.ofInt 576 + nI (6 * e + (r - 1))) 634 by rw [e0]; exact q_n1 (by omega) (by omega)) ?_
  refine bn_2 (fun q => And.intro (Or.inl rfl) ?_) (fun q => And.intro (Or.inr rfl) ?_)
  · have q : ¬ M.1 284 (Int32.ofInt 576 + nI (6 * e + (r - 1))).toNatClampNeg = 1 := q
    rw [hcl] at q
    unfold g_fl at hQ
    rw [if_neg q] at hQ
    exact hQ
  · have q : M.1 284 (Int32.ofInt 576 + nI (6 * e + (r - 1))).toNatClampNeg = 1 := q
    rw [hcl] at q
    unfold g_fl at hQ
    rw [if_pos q] at hQ
    exact hQ
set_option maxRecDepth 100000 in
set_option maxHeartbeats 4000000 in
theorem c_X12_givenOf_loop (hR : r_R 280 M t) (hb : b_T t) {e : Nat} (he : e < 6) (hQ : Q (some (.int (nI (g_cnt M e (t 0 0))))) M) : ∀ (n k : Nat), k + n = t 0 0 → q_G q_mt (L, xs, q_shp) E nX12_givenOf (d + 2) 0 0 (q_Q (L, xs, q_shp) E Q) 4 [some (.ref 271), some (.int (nI e)), some (.int (nI (g_cnt M e k))), some (.int (nI (k + 1)))] [] M
  | n, k, hk => by
    have hr6 := hb.1
    have hc := g_cnt_le M e k
    refine q_go q_ok (Nat.le_of_ble_eq_true rfl) 60 [4] ?_
    refine And.intro (q_inD rfl) (br_2 (fun q => ?_) (fun q => ?_))
    · have q : M.1 280 0 < nI (k + 1) := q
      rw [hR.1, nI_ltI (by omega) (by omega)] at q
      obtain rfl : k = t 0 0 := by omega
      exact hQ
    · have q : ¬ M.1 280 0 < nI (k + 1) := q
      rw [hR.1, nI_ltI (by omega) (by omega)] at q
      match n, hk with
      | 0, hk => omega
      | n + 1, hk =>
        have nx := c_X12_givenOf_loop hR hb he hQ n (k + 1) (by omega)
        refine c_X12_isGiven he (by omega) (by omega) ?_
        have ef : k + 1 - 1 = k := by omega
        rw [ef]
        have eg : g_cnt M e (k + 1) = g_cnt M e k + g_fl M e k := rfl
        rw [eg, show nI (k + 1 + 1) = nI (k + 1) + Int32.ofInt 1 from (nI_add (k + 1) 1).symm] at nx
        by_cases hf : g_fl M e k = 0
        · rw [hf] at nx ⊢
          refine br_t (by decide) ?_
          rw [show nI (g_cnt M e k + 0) = nI (g_cnt M e k) + Int32.ofInt 0 from (nI_add (g_cnt M e k) 0).symm] at nx
          exact nx
        · have h1 : g_fl M e k = 1 := by
            unfold g_fl at hf ⊢
            split at hf
            · rename_i h; rw [if_pos h]
            · exact absurd rfl hf
          rw [h1] at nx ⊢
          refine br_f (by decide) ?_
          rw [show nI (g_cnt M e k + 1) = nI (g_cnt M e k) + Int32.ofInt 1 from (nI_add (g_cnt M e k) 1).symm] at nx
          exact nx
set_option maxRecDepth 100000 in
theorem c_X12_givenOf (hR : r_R 280 M t) (hb : b_T t) {e : Nat} (he : e < 6) (hQ : Q (some (.int (nI (g_cnt M e (t 0 0))))) M) : q_C q_mt (L, xs, q_shp) E nX12_givenOf (d + 2) 0 0 [.ref 271, .int (nI e)] M Q := by
  refine q_inl rfl rfl 60 [4] ?_
  exact c_X12_givenOf_loop hR hb he hQ (t 0 0) 0 (Nat.zero_add _)
end TG
