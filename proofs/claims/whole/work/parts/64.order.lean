/-! judges in order: places by counting, places by insertion -/
theorem one_ct {a : Nat} : ∀ {k : Nat}, a < k → fb_ct (fun i => decide (i = a)) k = 1
  | 0, h => absurd h (Nat.not_lt_zero _)
  | k + 1, h => by
    rw [fb_ct_succ]
    by_cases q : k = a
    · rw [if_pos (decide_eq_true q), fb_ct_zero.mpr (fun i hi => decide_eq_false (by omega))]
    · rw [if_neg (by rw [decide_eq_false q]; decide), one_ct (k := k) (by omega)]
/-- how many of A come before j, among the first k -/
def rk (A : Nat → Bool) (c : Nat → Int) (k j : Nat) : Nat := fb_ct (fun i => A i && bfr c i j) k
section RKS
variable {A : Nat → Bool} {c : Nat → Int} {k i j : Nat}
theorem bfr_tr {a b d : Nat} (h : bfr c a b = true) (h' : bfr c b d = true) : bfr c a d = true := by
  rw [bfr_iff] at h h' ⊢
  omega
theorem bfr_ir : bfr c j j = false := bfr_f (by omega)
theorem bfr_as (h : bfr c i j = true) : bfr c j i = false := by
  rw [bfr_iff] at h
  exact bfr_f (by omega)
theorem bfr_to (h : ¬ i = j) : bfr c i j = true ∨ bfr c j i = true := by
  rw [bfr_iff, bfr_iff]
  omega
theorem rk_more {p q : Nat → Bool} (hj : j < k) (h : ∀ i, i < k → p i = true → q i = true) (h1 : p j = false) (h2 : q j = true) : fb_ct p k < fb_ct q k := by
  have e := fb_ct_or (p := p) (q := fun i => decide (i = j)) (n := k) (fun i hi z => by
    have := of_decide_eq_true z.2
    rw [this, h1] at z
    exact absurd z.1 (by decide))
  rw [one_ct hj] at e
  have l : fb_ct (fun i => p i || decide (i = j)) k ≤ fb_ct q k := fb_ct_sub (fun i hi z => by
    rw [Bool.or_eq_true] at z
    rcases z with z | z
    · exact h i hi z
    · rw [of_decide_eq_true z]
      exact h2)
  omega
theorem rk_lt (hA : A i = true) (hi : i < k) (h : bfr c i j = true) : rk A c k i < rk A c k j := by
  unfold rk
  refine rk_more hi (fun a _ z => ?_) ?_ ?_
  · rw [Bool.and_eq_true] at z ⊢
    exact ⟨z.1, bfr_tr z.2 h⟩
  · rw [bfr_ir, Bool.and_false]
  · rw [hA, h]
    rfl
theorem rk_top (hA : A j = true) (hj : j < k) : rk A c k j < fb_ct A k := by
  unfold rk
  refine rk_more hj (fun a _ z => (Bool.and_eq_true _ _ |>.mp z).1) ?_ hA
  rw [bfr_ir, Bool.and_false]
theorem rk_inj (hi : A i = true) (hj : A j = true) (hik : i < k) (hjk : j < k) (e : rk A c k i = rk A c k j) : i = j := by
  refine Classical.byContradiction (fun z => ?_)
  rcases bfr_to (c := c) z with h | h
  · have := rk_lt hi hik h
    omega
  · have := rk_lt hj hjk h
    omega
theorem rk_le (hi : A i = true) (hj : A j = true) (hik : i < k) (hjk : j < k) (e : rk A c k i ≤ rk A c k j) : c i ≤ c j := by
  refine Classical.byContradiction (fun z => ?_)
  have := rk_lt (i := j) (j := i) (c := c) (k := k) hj hjk (bfr_iff.mpr (by omega))
  omega
/-- a row that holds the order -/
def isR (A : Nat → Bool) (c : Nat → Int) (k : Nat) (R : Nat → Nat) : Prop := ∀ q, q < fb_ct A k → R q < k ∧ A (R q) = true ∧ rk A c k (R q) = q
theorem isR.at {R : Nat → Nat} (h : isR A c k R) (hj : A j = true) (hjk : j < k) : R (rk A c k j) = j := by
  have h1 := h _ (rk_top hj hjk (c := c))
  exact rk_inj h1.2.1 hj h1.1 hjk h1.2.2
theorem isR.ct {R : Nat → Nat} (h : isR A c k R) : ∀ p, p ≤ fb_ct A k → fb_ct (fun i => A i && decide (rk A c k i < p)) k = p := by
  intro p
  induction p with
  | zero => intro _; exact fb_ct_zero.mpr (fun i hi => by rw [decide_eq_false (Nat.not_lt_zero _), Bool.and_false])
  | succ p ih =>
    intro hp
    have h1 := h p (by omega)
    have e := fb_ct_or (p := fun i => A i && decide (rk A c k i < p)) (q := fun i => decide (i = R p)) (n := k) (fun i hi z => by
      have e1 := of_decide_eq_true z.2
      have e2 := of_decide_eq_true (Bool.and_eq_true _ _ |>.mp z.1).2
      rw [e1, h1.2.2] at e2
      omega)
    rw [ih (by omega), one_ct h1.1] at e
    refine Eq.trans ?_ e
    refine fb_ct_cong (fun i hi => ?_)
    by_cases q : i = R p
    · subst q
      rw [h1.2.1, h1.2.2, decide_eq_true (Nat.lt_succ_self p), decide_eq_true rfl, Bool.or_true]
      rfl
    · rw [decide_eq_false q, Bool.or_false]
      cases hA : A i with
      | false => rfl
      | true =>
        rw [Bool.true_and, Bool.true_and]
        have : ¬ rk A c k i = p := fun z => q (by rw [← z]; exact (h.at hA hi).symm)
        by_cases q2 : rk A c k i < p
        · rw [decide_eq_true q2, decide_eq_true (by omega)]
        · rw [decide_eq_false q2, decide_eq_false (by omega)]
def insR (R : Nat → Nat) (p k : Nat) : Nat → Nat := fun q => if q < p then R q else if q = p then k else R (q - 1)
theorem isR.ins {R : Nat → Nat} {p : Nat} (h : isR A c k R) (hk : A k = true) (hp : p ≤ fb_ct A k) (h1 : ∀ q, p ≤ q → q < fb_ct A k → c k < c (R q)) (h0 : p = 0 ∨ c (R (p - 1)) ≤ c k) : isR A c (k + 1) (insR R p k) := by
  have lo : ∀ q, q < p → c (R q) ≤ c k := by
    intro q hq
    have a := h q (by omega)
    have b := h (p - 1) (by omega)
    have := rk_le a.2.1 b.2.1 a.1 b.1 (by rw [a.2.2, b.2.2]; omega)
    omega
  have rs : ∀ j, rk A c (k + 1) j = rk A c k j + if bfr c k j then 1 else 0 := by
    intro j
    unfold rk
    rw [fb_ct_succ, hk, Bool.true_and]
  intro q hq
  rw [fb_ct_succ, if_pos hk] at hq
  unfold insR
  by_cases q1 : q < p
  · have a := h q (by omega)
    rw [if_pos q1, rs, a.2.2, bfr_f (by have := lo q q1; omega)]
    exact ⟨by omega, a.2.1, rfl⟩
  · rw [if_neg q1]
    by_cases q2 : q = p
    · subst q2
      rw [if_pos rfl, rs, bfr_ir]
      refine ⟨by omega, hk, ?_⟩
      show rk A c k k = q
      refine Eq.trans ?_ (h.ct q hp)
      unfold rk
      refine fb_ct_cong (fun i hi => ?_)
      cases hA : A i with
      | false => rfl
      | true =>
        rw [Bool.true_and, Bool.true_and]
        have e := h.at hA hi
        have tp := rk_top hA hi (c := c)
        by_cases q3 : rk A c k i < q
        · have := lo _ q3
          rw [e] at this
          rw [bfr_iff.mpr (by omega)]
          exact (decide_eq_true q3).symm
        · have := h1 _ (by omega) tp
          rw [e] at this
          rw [bfr_f (by omega)]
          exact (decide_eq_false q3).symm
    · have a := h (q - 1) (by omega)
      have b := h1 (q - 1) (by omega) (by omega)
      rw [if_neg q2, rs, a.2.2, bfr_iff.mpr (Or.inl b)]
      exact ⟨by omega, a.2.1, by show q - 1 + 1 = q; omega⟩
end RKS
/-- bits -/
theorem b_1 : ∀ i, i < 32 → bt 1 i = decide (i = 0) := by decide +kernel
theorem b_at {x : Int32} {j : Nat} (hj : j < 31) : (x >>> (nI j &&& 31)) &&& 1 = Int32.ofInt (if bt x j = true then 1 else 0) := by
  refine b_ext (fun i hi => ?_)
  rw [b_and, b_1 i hi]
  by_cases q : i = 0
  · subst q
    rw [b_sshr j (by omega) x hi, if_pos (by omega), Nat.add_zero]
    cases bt x j <;> decide
  · rw [decide_eq_false q, Bool.and_false]
    cases bt x j with
    | false => exact (b_0 i).symm
    | true =>
      show false = bt 1 i
      rw [b_1 i hi, decide_eq_false q]
theorem b_set {x : Int32} {j i : Nat} (hj : j < 32) (hi : i < 32) : bt (x ||| ((1 : Int32) <<< (nI j &&& 31))) i = (bt x i || decide (i = j)) := by
  rw [b_or, b_shl j hj 1 hi]
  congr 1
  by_cases q : j ≤ i
  · rw [decide_eq_true q, Bool.true_and, b_1 _ (by omega)]
    by_cases q2 : i = j
    · rw [decide_eq_true q2, decide_eq_true (by omega)]
    · rw [decide_eq_false q2, decide_eq_false (by omega)]
  · rw [decide_eq_false q, Bool.false_and, decide_eq_false (by omega)]
theorem z_min {a b : Int} (ha : -2147483648 ≤ a ∧ a < 2147483648) (hb : -2147483648 ≤ b ∧ b < 2147483648) : (if Int32.ofInt a < Int32.ofInt b then Int32.ofInt a else Int32.ofInt b) = Int32.ofInt (min a b) := by
  by_cases q : a < b
  · rw [if_pos (by rw [Int32.lt_iff_toInt_lt, z_toInt ha, z_toInt hb]; exact q)]
    exact congrArg Int32.ofInt (by omega)
  · rw [if_neg (by rw [Int32.lt_iff_toInt_lt, z_toInt ha, z_toInt hb]; exact q)]
    exact congrArg Int32.ofInt (by omega)
theorem z_max {a b : Int} (ha : -2147483648 ≤ a ∧ a < 2147483648) (hb : -2147483648 ≤ b ∧ b < 2147483648) : (if Int32.ofInt a < Int32.ofInt b then Int32.ofInt b else Int32.ofInt a) = Int32.ofInt (max a b) := by
  by_cases q : a < b
  · rw [if_pos (by rw [Int32.lt_iff_toInt_lt, z_toInt ha, z_toInt hb]; exact q)]
    exact congrArg Int32.ofInt (by omega)
  · rw [if_neg (by rw [Int32.lt_iff_toInt_lt, z_toInt ha, z_toInt hb]; exact q)]
    exact congrArg Int32.ofInt (by omega)
