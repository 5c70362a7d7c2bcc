/-! the text: its tokens, the pure picture -/
def isLt (b : Nat) : Bool := decide (97 ≤ b ∧ b ≤ 122)
def isDg (b : Nat) : Bool := decide (48 ≤ b ∧ b ≤ 57)
def isBl (b : Nat) : Bool := decide (b = 32 ∨ b = 10)
theorem isLt_t {b : Nat} : isLt b = true ↔ (97 ≤ b ∧ b ≤ 122) := decide_eq_true_iff
theorem isDg_t {b : Nat} : isDg b = true ↔ (48 ≤ b ∧ b ≤ 57) := decide_eq_true_iff
theorem isBl_t {b : Nat} : isBl b = true ↔ (b = 32 ∨ b = 10) := decide_eq_true_iff
theorem isLt_f {b : Nat} : isLt b = false ↔ ¬ (97 ≤ b ∧ b ≤ 122) := decide_eq_false_iff_not
theorem isDg_f {b : Nat} : isDg b = false ↔ ¬ (48 ≤ b ∧ b ≤ 57) := decide_eq_false_iff_not
theorem isBl_f {b : Nat} : isBl b = false ↔ ¬ (b = 32 ∨ b = 10) := decide_eq_false_iff_not
/-- where a row of such bytes ends -/
def rnE (f : Nat → Bool) (x : Nat → Nat) : Nat → Nat → Nat
  | 0, i => i
  | k + 1, i => if f (x i) = true then rnE f x k (i + 1) else i
theorem rnE_s {f : Nat → Bool} {x : Nat → Nat} : ∀ {k i : Nat}, i ≤ rnE f x k i ∧ rnE f x k i ≤ i + k ∧ (∀ j, i ≤ j → j < rnE f x k i → f (x j) = true) ∧ (rnE f x k i < i + k → f (x (rnE f x k i)) = false)
  | 0, i => ⟨Nat.le_refl _, Nat.le_refl _, fun j h1 h2 => by have h2 : j < i := h2; omega, fun h => by have h : i < i + 0 := h; omega⟩
  | k + 1, i => by
    have ih := rnE_s (f := f) (x := x) (k := k) (i := i + 1)
    by_cases h : f (x i) = true
    · have e : rnE f x (k + 1) i = rnE f x k (i + 1) := if_pos h
      rw [e]
      refine ⟨by omega, by omega, fun j h1 h2 => ?_, fun z => ih.2.2.2 (by omega)⟩
      by_cases w : j = i
      · rw [w]
        exact h
      · exact ih.2.2.1 j (by omega) h2
    · have e : rnE f x (k + 1) i = i := if_neg h
      rw [e]
      exact ⟨Nat.le_refl _, by omega, fun j h1 h2 => by omega, fun _ => Bool.eq_false_iff.mpr h⟩
/-- a number's value, a word's two spellings -/
def nvE (x : Nat → Nat) (i : Nat) : Nat → Nat
  | 0 => 0
  | k + 1 => if k < 4 then 10 * nvE x i k + (x (i + k) - 48) else nvE x i k
def w5E (x : Nat → Nat) (i : Nat) : Nat → Nat
  | 0 => 0
  | k + 1 => if k < 12 then 32 * w5E x i k + (x (i + k) - 96) else w5E x i k
def w8E (x : Nat → Nat) (i : Nat) : Nat → Nat
  | 0 => 0
  | k + 1 => if k < 8 then 256 * w8E x i k + x (i + k) else 0
section TX
variable {x y : Nat → Nat} {i j : Nat}
theorem nvE_b : ∀ {k : Nat}, (∀ p, p < k → 48 ≤ x (i + p) ∧ x (i + p) ≤ 57) → nvE x i k < 10 ^ (min k 4)
  | 0, _ => (by decide : 0 < 10 ^ 0)
  | k + 1, h => by
    have ih := nvE_b (k := k) (fun p hp => h p (by omega))
    have a := h k (by omega)
    show (if k < 4 then 10 * nvE x i k + (x (i + k) - 48) else nvE x i k) < _
    by_cases q : k < 4
    · rw [if_pos q, show min (k + 1) 4 = k + 1 by omega, Nat.pow_succ]
      rw [show min k 4 = k by omega] at ih
      omega
    · rw [if_neg q, show min (k + 1) 4 = 4 by omega]
      rw [show min k 4 = 4 by omega] at ih
      exact ih
theorem nvE_9 {k : Nat} (h : ∀ p, p < k → 48 ≤ x (i + p) ∧ x (i + p) ≤ 57) : nvE x i k ≤ 9999 := by
  have a := nvE_b h
  have b : 10 ^ (min k 4) ≤ 10 ^ 4 := Nat.pow_le_pow_right (by decide) (by omega)
  omega
theorem w5E_b : ∀ {k : Nat}, (∀ p, p < k → 97 ≤ x (i + p) ∧ x (i + p) ≤ 122) → w5E x i k < 32 ^ (min k 12)
  | 0, _ => (by decide : 0 < 32 ^ 0)
  | k + 1, h => by
    have ih := w5E_b (k := k) (fun p hp => h p (by omega))
    have a := h k (by omega)
    show (if k < 12 then 32 * w5E x i k + (x (i + k) - 96) else w5E x i k) < _
    by_cases q : k < 12
    · rw [if_pos q, show min (k + 1) 12 = k + 1 by omega, Nat.pow_succ]
      rw [show min k 12 = k by omega] at ih
      omega
    · rw [if_neg q, show min (k + 1) 12 = 12 by omega]
      rw [show min k 12 = 12 by omega] at ih
      exact ih
theorem w8E_b : ∀ {k : Nat}, k ≤ 8 → (∀ p, p < k → 97 ≤ x (i + p) ∧ x (i + p) ≤ 122) → w8E x i k < 2 * 128 ^ 1 * 256 ^ k ∧ 2 * w8E x i k < 256 ^ k + (if k = 0 then 1 else 0)
  | 0, _, _ => ⟨(by decide : 0 < 2 * 128 ^ 1 * 256 ^ 0), (by decide : 2 * 0 < 256 ^ 0 + (if (0 : Nat) = 0 then 1 else 0))⟩
  | k + 1, hk, h => by
    have ih := w8E_b (k := k) (by omega) (fun p hp => h p (by omega))
    have a := h k (by omega)
    have e : w8E x i (k + 1) = 256 * w8E x i k + x (i + k) := if_pos (by omega)
    rw [e, Nat.pow_succ, if_neg (by omega)]
    by_cases q : k = 0
    · subst q
      have e0 : w8E x i 0 = 0 := rfl
      rw [e0]
      omega
    · rw [if_neg q] at ih
      omega
/-- a spelling tells its letters -/
theorem w5E_inj : ∀ {k m : Nat}, k ≤ 12 → m ≤ 12 → (∀ p, p < k → 97 ≤ x (i + p) ∧ x (i + p) ≤ 122) → (∀ p, p < m → 97 ≤ y (j + p) ∧ y (j + p) ≤ 122) → w5E x i k = w5E y j m → k = m ∧ ∀ p, p < k → x (i + p) = y (j + p)
  | 0, 0, _, _, _, _, _ => ⟨rfl, fun p hp => absurd hp (Nat.not_lt_zero _)⟩
  | 0, m + 1, _, hm, _, hy, e => by
    have b := hy m (by omega)
    have e2 : w5E y j (m + 1) = 32 * w5E y j m + (y (j + m) - 96) := if_pos (by omega)
    rw [e2] at e
    have e : 0 = 32 * w5E y j m + (y (j + m) - 96) := e
    omega
  | k + 1, 0, hk, _, hx, _, e => by
    have b := hx k (by omega)
    have e2 : w5E x i (k + 1) = 32 * w5E x i k + (x (i + k) - 96) := if_pos (by omega)
    rw [e2] at e
    have e : 32 * w5E x i k + (x (i + k) - 96) = 0 := e
    omega
  | k + 1, m + 1, hk, hm, hx, hy, e => by
    have b := hx k (by omega)
    have c := hy m (by omega)
    have e1 : w5E x i (k + 1) = 32 * w5E x i k + (x (i + k) - 96) := if_pos (by omega)
    have e2 : w5E y j (m + 1) = 32 * w5E y j m + (y (j + m) - 96) := if_pos (by omega)
    rw [e1, e2] at e
    obtain ⟨h1, h2⟩ := w5E_inj (k := k) (m := m) (by omega) (by omega) (fun p hp => hx p (by omega)) (fun p hp => hy p (by omega)) (by omega)
    subst h1
    refine ⟨rfl, fun p hp => ?_⟩
    by_cases w : p = k
    · rw [w]
      omega
    · exact h2 p (by omega)
theorem w8E_inj : ∀ {k m : Nat}, k ≤ 8 → m ≤ 8 → (∀ p, p < k → 97 ≤ x (i + p) ∧ x (i + p) ≤ 122) → (∀ p, p < m → 97 ≤ y (j + p) ∧ y (j + p) ≤ 122) → w8E x i k = w8E y j m → k = m ∧ ∀ p, p < k → x (i + p) = y (j + p)
  | 0, 0, _, _, _, _, _ => ⟨rfl, fun p hp => absurd hp (Nat.not_lt_zero _)⟩
  | 0, m + 1, _, hm, _, hy, e => by
    have b := hy m (by omega)
    have e2 : w8E y j (m + 1) = 256 * w8E y j m + y (j + m) := if_pos (by omega)
    rw [e2] at e
    have e : 0 = 256 * w8E y j m + y (j + m) := e
    omega
  | k + 1, 0, hk, _, hx, _, e => by
    have b := hx k (by omega)
    have e2 : w8E x i (k + 1) = 256 * w8E x i k + x (i + k) := if_pos (by omega)
    rw [e2] at e
    have e : 256 * w8E x i k + x (i + k) = 0 := e
    omega
  | k + 1, m + 1, hk, hm, hx, hy, e => by
    have b := hx k (by omega)
    have c := hy m (by omega)
    have e1 : w8E x i (k + 1) = 256 * w8E x i k + x (i + k) := if_pos (by omega)
    have e2 : w8E y j (m + 1) = 256 * w8E y j m + y (j + m) := if_pos (by omega)
    rw [e1, e2] at e
    obtain ⟨h1, h2⟩ := w8E_inj (k := k) (m := m) (by omega) (by omega) (fun p hp => hx p (by omega)) (fun p hp => hy p (by omega)) (by omega)
    subst h1
    refine ⟨rfl, fun p hp => ?_⟩
    by_cases w : p = k
    · rw [w]
      omega
    · exact h2 p (by omega)
theorem w5E_eq : ∀ {k : Nat}, (∀ p, p < k → x (i + p) = y (j + p)) → w5E x i k = w5E y j k
  | 0, _ => rfl
  | k + 1, h => by
    show (if k < 12 then 32 * w5E x i k + (x (i + k) - 96) else w5E x i k) = (if k < 12 then 32 * w5E y j k + (y (j + k) - 96) else w5E y j k)
    rw [w5E_eq (k := k) (fun p hp => h p (by omega)), h k (by omega)]
theorem w8E_eq : ∀ {k : Nat}, (∀ p, p < k → x (i + p) = y (j + p)) → w8E x i k = w8E y j k
  | 0, _ => rfl
  | k + 1, h => by
    show (if k < 8 then 256 * w8E x i k + x (i + k) else 0) = (if k < 8 then 256 * w8E y j k + y (j + k) else 0)
    rw [w8E_eq (k := k) (fun p hp => h p (by omega)), h k (by omega)]
/-- both spellings agree about what is alike -/
theorem w58 {k m : Nat} (hk : k ≤ 8) (hm : m ≤ 8) (hx : ∀ p, p < k → 97 ≤ x (i + p) ∧ x (i + p) ≤ 122) (hy : ∀ p, p < m → 97 ≤ y (j + p) ∧ y (j + p) ≤ 122) : w5E x i k = w5E y j m ↔ w8E x i k = w8E y j m := by
  refine ⟨fun e => ?_, fun e => ?_⟩
  · obtain ⟨h1, h2⟩ := w5E_inj (by omega) (by omega) hx hy e
    subst h1
    exact w8E_eq h2
  · obtain ⟨h1, h2⟩ := w8E_inj hk hm hx hy e
    subst h1
    exact w5E_eq h2
end TX
