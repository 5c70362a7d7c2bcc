/-! among as many bribes the lowest marks are best -/
section LB
variable {A B : Nat → Bool} {m c : Nat → Int} {k x : Nat} {T : Int}
theorem isR.le2 {c' : Nat → Int} {R R' : Nat → Nat} (h : isR A c k R) (h' : isR A c' k R') (hc : ∀ v : Int, fb_ct (fun i => A i && decide (c' i < v)) k ≤ fb_ct (fun i => A i && decide (c i < v)) k) {q : Nat} (hq : q < fb_ct A k) : c (R q) ≤ c' (R' q) := by
  refine Classical.byContradiction (fun z => ?_)
  have a := h q hq
  have b := h' q hq
  have e := h'.ct (q + 1) (by omega)
  have l1 : fb_ct (fun i => A i && decide (rk A c' k i < q + 1)) k ≤ fb_ct (fun i => A i && decide (c' i < c (R q))) k := fb_ct_sub (fun i hi hz => by
    rw [Bool.and_eq_true, decide_eq_true_eq] at hz ⊢
    have h1 := rk_le hz.1 b.2.1 hi b.1 (c := c') (by rw [b.2.2]; omega)
    exact ⟨hz.1, by omega⟩)
  have l2 := hc (c (R q))
  have l3 : fb_ct (fun i => A i && decide (c i < c (R q))) k ≤ rk A c k (R q) := fb_ct_sub (fun i hi hz => by
    rw [Bool.and_eq_true, decide_eq_true_eq] at hz
    rw [hz.1, bfr_iff.mpr (Or.inl hz.2)]
    rfl)
  rw [a.2.2] at l3
  omega
theorem low_set {R : Nat → Nat} (h : isR A m k R) (hm : ∀ i j, i < k → j < k → A i = true → A j = true → m i ≤ m j → c i ≤ c j) (v : Int) {i : Nat} (hi : i < k) (hA : A i = true) : c i < v ↔ rk A m k i < fb_ct (fun i => A i && decide (c i < v)) k := by
  constructor
  · intro hv
    have e := h.ct (rk A m k i + 1) (by have := rk_top hA hi (c := m); omega)
    have l : fb_ct (fun j => A j && decide (rk A m k j < rk A m k i + 1)) k ≤ fb_ct (fun i => A i && decide (c i < v)) k := fb_ct_sub (fun j hj hz => by
      rw [Bool.and_eq_true, decide_eq_true_eq] at hz ⊢
      have h1 := rk_le hz.1 hA hj hi (c := m) (by omega)
      have h2 := hm j i hj hi hz.1 hA h1
      exact ⟨hz.1, by omega⟩)
    omega
  · intro hv
    refine Classical.byContradiction (fun z => ?_)
    have tp := rk_top hA hi (c := m)
    have e := h.ct (rk A m k i) (by omega)
    have l : fb_ct (fun i => A i && decide (c i < v)) k ≤ fb_ct (fun j => A j && decide (rk A m k j < rk A m k i)) k := fb_ct_sub (fun j hj hz => by
      rw [Bool.and_eq_true, decide_eq_true_eq] at hz ⊢
      refine ⟨hz.1, Classical.byContradiction (fun z2 => ?_)⟩
      have h1 := rk_le hA hz.1 hi hj (c := m) (by omega)
      have h2 := hm i j hi hj hA hz.1 h1
      omega)
    omega
theorem low_best (hm : ∀ i j, i < k → j < k → A i = true → A j = true → m i ≤ m j → c i ≤ c j) (hT : ∀ i, i < k → A i = true → c i ≤ T) (hx : x = fb_ct (fun i => A i && B i) k) (v : Int) : fb_ct (fun i => A i && decide ((if rk A m k i < x then T else c i) < v)) k ≤ fb_ct (fun i => A i && decide ((if B i = true then T else c i) < v)) k := by
  obtain ⟨R, hR⟩ := isR_ex (A := A) (c := m) (k := k)
  by_cases q : T < v
  · refine fb_ct_sub (fun i hi hz => ?_)
    rw [Bool.and_eq_true, decide_eq_true_eq] at hz ⊢
    have := hT i hi hz.1
    refine ⟨hz.1, ?_⟩
    split <;> omega
  · have ls := fun i (hi : i < k) (hA : A i = true) => low_set hR hm v hi hA
    generalize hC : fb_ct (fun i => A i && decide (c i < v)) k = C at ls
    have hCN : C ≤ fb_ct A k := by
      rw [← hC]
      exact fb_ct_sub (fun i hi hz => (Bool.and_eq_true _ _ |>.mp hz).1)
    have o1 := fb_ct_or (p := fun i => A i && decide ((if B i = true then T else c i) < v)) (q := fun i => A i && B i) (n := k) (fun i hi z => by
      rw [Bool.and_eq_true, Bool.and_eq_true, decide_eq_true_eq] at z
      have z1 := z.1.2
      rw [if_pos z.2.2] at z1
      omega)
    have s1 : fb_ct (fun i => A i && decide (c i < v)) k ≤ fb_ct (fun i => (A i && decide ((if B i = true then T else c i) < v)) || (A i && B i)) k := fb_ct_sub (fun i hi hz => by
      rw [Bool.and_eq_true, decide_eq_true_eq] at hz
      rw [Bool.or_eq_true, Bool.and_eq_true, Bool.and_eq_true, decide_eq_true_eq]
      by_cases hB : B i = true
      · exact Or.inr ⟨hz.1, hB⟩
      · rw [if_neg hB]
        exact Or.inl hz)
    have o2 := fb_ct_or (p := fun i => A i && decide ((if rk A m k i < x then T else c i) < v)) (q := fun i => A i && decide (rk A m k i < min x C)) (n := k) (fun i hi z => by
      rw [Bool.and_eq_true, Bool.and_eq_true, decide_eq_true_eq, decide_eq_true_eq] at z
      have z1 := z.1.2
      rw [if_pos (by omega)] at z1
      omega)
    have s2 : fb_ct (fun i => (A i && decide ((if rk A m k i < x then T else c i) < v)) || (A i && decide (rk A m k i < min x C))) k ≤ C := by
      rw [← hC]
      refine fb_ct_sub (fun i hi hz => ?_)
      rw [Bool.or_eq_true, Bool.and_eq_true, Bool.and_eq_true, decide_eq_true_eq, decide_eq_true_eq] at hz
      rw [Bool.and_eq_true, decide_eq_true_eq]
      rcases hz with hz | hz
      · refine ⟨hz.1, ?_⟩
        have z1 := hz.2
        split at z1
        · omega
        · exact z1
      · exact ⟨hz.1, (ls i hi hz.1).mpr (by omega)⟩
    have e := hR.ct (min x C) (by omega)
    omega
end LB
section LP
variable {t : q_T} {S : Nat → Bool} {c c' : Nat → Int} {dr : Nat}
theorem kS_dom (s : Nat) (hc : ∀ v : Int, fb_ct (fun i => ofS t S s i && decide (c' i < v)) (t 2 0) ≤ fb_ct (fun i => ofS t S s i && decide (c i < v)) (t 2 0)) : kS t S c dr c s ≤ kS t S c' dr c' s := by
  obtain ⟨R, hR⟩ := isR_ex (A := ofS t S s) (c := c) (k := t 2 0)
  obtain ⟨R', hR'⟩ := isR_ex (A := ofS t S s) (c := c') (k := t 2 0)
  have hd := dw_le dr (pan t S s)
  have hp : pan t S s = fb_ct (ofS t S s) (t 2 0) := rfl
  unfold kS
  rw [hR.mid c hd (by omega), hR'.mid c' hd (by omega)]
  exact si_mono (fun i hi => hR.le2 hR' hc (by omega))
theorem ptS_dom {deg : Int} (h4 : ∀ j, j < t 2 0 → t 4 j ≤ 3) (hc : ∀ s, s ≤ 3 → ∀ v : Int, fb_ct (fun i => ofS t S s i && decide (c' i < v)) (t 2 0) ≤ fb_ct (fun i => ofS t S s i && decide (c i < v)) (t 2 0)) (h0 : ∀ j, j < t 2 0 → S j = true → 0 ≤ c j ∧ c j ≤ 20) (hd : 0 ≤ deg) : ptS t S c dr deg ≤ ptS t S c' dr deg := by
  have hs : smS t S c dr (t 2 0) ≤ smS t S c' dr (t 2 0) := by
    unfold smS
    rw [kpt_s c h4, kpt_s c' h4]
    have a := kS_dom (dr := dr) 0 (hc 0 (by omega))
    have b := kS_dom (dr := dr) 1 (hc 1 (by omega))
    have e := kS_dom (dr := dr) 2 (hc 2 (by omega))
    have f := kS_dom (dr := dr) 3 (hc 3 (by omega))
    omega
  have hb := (smS_b (t := t) (S := S) (c := c) (dr := dr) (k := t 2 0) h0).1
  unfold ptS
  rw [kpt_n (c := c) (c' := c') h4]
  split
  · exact Int.le_refl _
  · next hn =>
    generalize smS t S c dr (t 2 0) = x at *
    generalize smS t S c' dr (t 2 0) = y at *
    generalize fb_ct (kpt t S c' dr) (t 2 0) = z at *
    have p1 : 0 ≤ x * 15 * deg := Int.mul_nonneg (by omega) hd
    have p2 : x * 15 * deg ≤ y * 15 * deg := Int.mul_le_mul_of_nonneg_right (by omega) hd
    rw [Int.tdiv_eq_ediv_of_nonneg p1, Int.tdiv_eq_ediv_of_nonneg (by omega)]
    exact Int.ediv_le_ediv (Int.natCast_pos.mpr (Nat.pos_of_ne_zero hn)) p2
theorem ct_sorts (p : Nat → Bool) : ∀ {k : Nat}, (∀ j, j < k → t 4 j ≤ 3) → fb_ct p k = fb_ct (fun i => p i && decide (t 4 i = 0)) k + fb_ct (fun i => p i && decide (t 4 i = 1)) k + fb_ct (fun i => p i && decide (t 4 i = 2)) k + fb_ct (fun i => p i && decide (t 4 i = 3)) k
  | 0, _ => rfl
  | k + 1, h => by
    have ih := ct_sorts p (k := k) (fun j hj => h j (by omega))
    have h4 := h k (by omega)
    rw [fb_ct_succ, fb_ct_succ, fb_ct_succ, fb_ct_succ, fb_ct_succ, ih]
    cases p k with
    | false => simp
    | true =>
      obtain z | z | z | z : t 4 k = 0 ∨ t 4 k = 1 ∨ t 4 k = 2 ∨ t 4 k = 3 := by omega
      all_goals (simp [z]; try omega)
theorem mask_ex (p : Nat → Bool) : ∀ J : Nat, ∃ K, K < 2 ^ J ∧ ∀ i, K.testBit i = (decide (i < J) && p i)
  | 0 => ⟨0, by decide, fun i => by rw [Nat.zero_testBit, decide_eq_false (Nat.not_lt_zero _)]; rfl⟩
  | J + 1 => by
    obtain ⟨K, hK, hb⟩ := mask_ex p J
    have h2 : 2 ^ (J + 1) = 2 * 2 ^ J := by rw [Nat.pow_succ]; omega
    cases q : p J with
    | false =>
      refine ⟨K, by omega, fun i => ?_⟩
      rw [hb i]
      by_cases qi : i = J
      · rw [qi, q, Bool.and_false, Bool.and_false]
      · by_cases q2 : i < J
        · rw [decide_eq_true q2, decide_eq_true (by omega)]
        · rw [decide_eq_false q2, decide_eq_false (by omega)]
    | true =>
      refine ⟨K ||| 2 ^ J, Nat.or_lt_two_pow (by omega) (by omega), fun i => ?_⟩
      rw [fb_bit_set, hb i]
      by_cases qi : i = J
      · rw [decide_eq_true qi, Bool.or_true, qi, q, decide_eq_true (Nat.lt_succ_self J)]
        rfl
      · rw [decide_eq_false qi, Bool.or_false]
        by_cases q2 : i < J
        · rw [decide_eq_true q2, decide_eq_true (by omega)]
        · rw [decide_eq_false q2, decide_eq_false (by omega)]
end LP
