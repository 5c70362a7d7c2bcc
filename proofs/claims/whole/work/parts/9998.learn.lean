/-! the class's table of sets: the pure picture -/
/-- sets that some row which obeys so far has -/
def rch' (t : q_T) (pr S : Nat) : Prop := ∃ row k, k ≤ t 0 0 ∧ dst row k (t 5 0) ∧ (∀ i, i < k → obey t (stO row i) (row i) pr) ∧ stO row k = S
section RC
variable {t : q_T} {pr S d : Nat}
theorem rch_0 : rch' t pr 0 := ⟨fun _ => 0, 0, Nat.zero_le _, ⟨fun i hi => by omega, fun i j hi => by omega⟩, fun i hi => by omega, rfl⟩
theorem rch_s (h10 : t 5 0 ≤ 10) (h : rch' t pr S) (hN : (fb_ct (fun j => S.testBit j) 11) < t 0 0) (hd : d < t 5 0) (hc : cWy t pr aAll ((fb_ct (fun j => S.testBit j) 11)) S d = true) : rch' t pr (S ||| 2 ^ d) ∧ (fb_ct (fun j => (S ||| 2 ^ d).testBit j) 11) = (fb_ct (fun j => S.testBit j) 11) + 1 := by
  obtain ⟨row, k, hk, hdst, hob, rfl⟩ := h
  have e := stO_pc hdst (by omega)
  obtain ⟨-, h2, h3⟩ := cWy_t.mp hc
  have e2 : stO (updR row k d) (k + 1) = stO row k ||| 2 ^ d := by
    show stO (updR row k d) k ||| 2 ^ updR row k d k = _
    rw [stO_eq upd_lt, upd_at]
  have nin : ∀ i, i < k → ¬ row i = d := fun i hi z => by
    rw [stO_iff.mpr ⟨i, hi, z⟩] at h2
    cases h2
  have hd2 : dst (updR row k d) (k + 1) (t 5 0) := by
    refine ⟨fun i hi => ?_, fun i j hi hj hne z => ?_⟩
    · by_cases q : i = k
      · rw [q, upd_at]
        exact hd
      · rw [upd_lt i (by omega)]
        exact hdst.1 i (by omega)
    · by_cases zi : i = k
      · by_cases zj : j = k
        · omega
        · rw [zi, upd_at, upd_lt j (by omega)] at z
          exact nin j (by omega) z.symm
      · by_cases zj : j = k
        · rw [zj, upd_at, upd_lt i (by omega)] at z
          exact nin i (by omega) z
        · rw [upd_lt i (by omega), upd_lt j (by omega)] at z
          exact hdst.2 i j (by omega) (by omega) hne z
  have e3 := stO_pc hd2 (by omega)
  rw [e2] at e3
  refine ⟨⟨updR row k d, k + 1, by omega, hd2, fun i hi => ?_, e2⟩, by omega⟩
  rw [stO_eq (k := i) (fun j hj => upd_lt j (by omega))]
  by_cases q : i = k
  · rw [q, upd_at]
    exact h3
  · rw [upd_lt i (by omega)]
    exact hob i (by omega)
theorem rch_inv (h10 : t 5 0 ≤ 10) (h : rch' t pr S) (h0 : ¬ S = 0) : ∃ S' d, rch' t pr S' ∧ (fb_ct (fun j => S'.testBit j) 11) < t 0 0 ∧ d < t 5 0 ∧ cWy t pr aAll ((fb_ct (fun j => S'.testBit j) 11)) S' d = true ∧ S = S' ||| 2 ^ d := by
  obtain ⟨row, k, hk, hdst, hob, rfl⟩ := h
  cases k with
  | zero => exact absurd rfl h0
  | succ k =>
    have e := stO_pc (hdst.le (Nat.le_succ k)) (by omega)
    exact ⟨stO row k, row k, ⟨row, k, by omega, hdst.le (by omega), fun i hi => hob i (by omega), rfl⟩, by omega, hdst.1 k (by omega), cWy_t.mpr ⟨rfl, hdst.new, hob k (by omega)⟩, rfl⟩
theorem or_lt (h : S.testBit d = false) : S < S ||| 2 ^ d := by
  refine Nat.lt_of_le_of_ne Nat.left_le_or (fun e => ?_)
  have : (S ||| 2 ^ d).testBit d = true := by rw [Nat.testBit_or, Nat.testBit_two_pow, decide_eq_true rfl, Bool.or_true]
  rw [← e, h] at this
  cases this
theorem or_b {D : Nat} (h : S < 2 ^ D) (hd : d < D) : S ||| 2 ^ d < 2 ^ D := Nat.or_lt_two_pow h (Nat.pow_lt_pow_right (by decide) hd)
/-- how many rows end so -/
def exN (t : q_T) (pr : Nat) (alw : Nat → Nat → Bool) (S : Nat) : Nat := (ext (cWy t pr alw) (t 5 0) (t 0 0 - (fb_ct (fun j => S.testBit j) 11)) ((fb_ct (fun j => S.testBit j) 11)) S).length
theorem exF_len {g : Nat → List (List Nat)} : ∀ {j a : Nat}, (exF g j a).length = fb_sm (fun i => (g (a + i)).length) j
  | 0, _ => rfl
  | j + 1, a => by
    show (g a ++ exF g j (a + 1)).length = _
    rw [List.length_append, exF_len (j := j) (a := a + 1)]
    have := fb_sm_split (fun i => (g (a + i)).length) 1 j
    rw [Nat.add_comm j 1, this, show fb_sm (fun i => (g (a + i)).length) 1 = (g a).length by rw [fb_sm_succ]; show 0 + (g (a + 0)).length = _; rw [Nat.zero_add, Nat.add_zero]]
    congr 1
    exact fb_sm_cong (fun i hi => by rw [show a + 1 + i = a + (1 + i) by omega])
theorem ext_len {C : CT} {D k p : Nat} : (ext C D (k + 1) p S).length = fb_sm (fun d => if C p S d = true then (ext C D k (p + 1) (S ||| 2 ^ d)).length else 0) D := by
  show (exF _ D 0).length = _
  rw [exF_len]
  refine fb_sm_cong (fun d hd => ?_)
  rw [Nat.zero_add]
  by_cases q : C p S d = true
  · rw [if_pos q, if_pos q, List.length_map]
  · rw [if_neg q, if_neg q]
    rfl
theorem ext_b {C : CT} {D : Nat} (hD : D ≤ 10) : ∀ {k p S : Nat}, (ext C D k p S).length ≤ 10 ^ k
  | 0, _, _ => Nat.le_refl _
  | k + 1, p, S => by
    rw [ext_len]
    have : fb_sm (fun d => if C p S d = true then (ext C D k (p + 1) (S ||| 2 ^ d)).length else 0) D ≤ 10 ^ k * D := sm_le (fun i hi => by
      split
      · exact ext_b hD
      · exact Nat.zero_le _)
    have h2 : 10 ^ k * D ≤ 10 ^ k * 10 := Nat.mul_le_mul_left _ hD
    rw [Nat.pow_succ]
    omega
theorem exN_s {alw : Nat → Nat → Bool} (hN : (fb_ct (fun j => S.testBit j) 11) < t 0 0) (hpc : ∀ d, d < t 5 0 → cWy t pr alw ((fb_ct (fun j => S.testBit j) 11)) S d = true → (fb_ct (fun j => (S ||| 2 ^ d).testBit j) 11) = (fb_ct (fun j => S.testBit j) 11) + 1) : exN t pr alw S = fb_sm (fun d => if cWy t pr alw ((fb_ct (fun j => S.testBit j) 11)) S d = true then exN t pr alw (S ||| 2 ^ d) else 0) (t 5 0) := by
  unfold exN
  rw [show t 0 0 - (fb_ct (fun j => S.testBit j) 11) = (t 0 0 - (fb_ct (fun j => S.testBit j) 11) - 1) + 1 by omega, ext_len]
  refine fb_sm_cong (fun d hd => ?_)
  by_cases q : cWy t pr alw ((fb_ct (fun j => S.testBit j) 11)) S d = true
  · rw [if_pos q, if_pos q, hpc d hd q, show t 0 0 - ((fb_ct (fun j => S.testBit j) 11) + 1) = t 0 0 - (fb_ct (fun j => S.testBit j) 11) - 1 by omega]
  · rw [if_neg q, if_neg q]
theorem pc_s (hS : S < 1024) (hd : d < 10) (h : S.testBit d = false) : (fb_ct (fun j => (S ||| 2 ^ d).testBit j) 11) = (fb_ct (fun j => S.testBit j) 11) + 1 := ct_upd (r := d) (by omega) h (by rw [Nat.testBit_or, Nat.testBit_two_pow, decide_eq_true rfl, Bool.or_true]) (fun i hi hne => by rw [Nat.testBit_or, Nat.testBit_two_pow, decide_eq_false (by omega), Bool.or_false])
end RC
/-- the table is learnt -/
def g_Mm (M : q_M) (t : q_T) (pr : Nat) : Prop := ∀ S, S < 2 ^ t 5 0 → rch' t pr S → (∀ d, d < t 5 0 → bt (M.1 246 (1024 * pr + S)) d = (decide ((fb_ct (fun j => S.testBit j) 11) < t 0 0) && cWy t pr aAll ((fb_ct (fun j => S.testBit j) 11)) S d)) ∧ M.1 247 (1024 * pr + S) = nI (exN t pr aAll S)
