/-! the call named: both spellings agree -/
section ND
variable {L : Nat} {xs : Nat → Int32} {E : q_E} {d : Nat} {M : q_M} {t : q_T} {n : sN} {Q : Option Value → q_M → Prop} {P : q_M → Prop}
variable {x : Nat → Nat} {len : Nat}
theorem w8E_63 {x : Nat → Nat} {i k : Nat} (hk : k ≤ 8) (h : ∀ p, p < k → 97 ≤ x (i + p) ∧ x (i + p) ≤ 122) : w8E x i k < 9223372036854775808 := by
  have a := (w8E_b hk h).2
  have b : 256 ^ k ≤ 256 ^ 8 := Nat.pow_le_pow_right (by decide) hk
  by_cases q : k = 0
  · subst q
    show 0 < _
    omega
  · rw [if_neg q] at a
    omega
theorem w8E_0 {x : Nat → Nat} {i : Nat} : ∀ {k : Nat}, 8 < k → w8E x i k = 0
  | 0, h => by omega
  | k + 1, h => if_neg (by omega)
theorem ln_lt (w : lnW x len) : 1 ≤ lnK x len ∧ ∀ p, p < lnK x len → 97 ≤ x (tkS x len 0 + p) ∧ x (tkS x len 0 + p) ≤ 122 := by
  have er : tkR x len (tkS x len 0) = rnE isLt x (len - tkS x len 0) (tkS x len 0) := if_pos w.2.1
  obtain ⟨s1, s2, s3, s4⟩ := rnE_s (f := isLt) (x := x) (k := len - tkS x len 0) (i := tkS x len 0)
  rw [← er] at s1 s2 s3 s4
  have w1 := w.1
  refine ⟨?_, fun p hp => isLt_t.mp (s3 _ (by omega) ?_)⟩
  · show 1 ≤ tkR x len (tkS x len 0) - tkS x len 0
    rcases Nat.lt_or_ge (tkS x len 0) (tkR x len (tkS x len 0)) with z | z
    · omega
    · have e : tkR x len (tkS x len 0) = tkS x len 0 := by omega
      have := s4 (by omega)
      rw [e, w.2.1] at this
      cases this
  · have hp : p < tkR x len (tkS x len 0) - tkS x len 0 := hp
    omega
theorem nm_b {j : Nat} (h : nmO t j) : n5 t j < 1152921504606846976 ∧ n8 t j < 9223372036854775808 := ⟨w5E_60 h.2.2.1, w8E_63 (by have := h.2.1; omega) h.2.2.1⟩
/-- where it may be a name -/
theorem nm_same {j : Nat} (h : nmO t j) (w : lnW x len) (o : okN x len) : Int64.ofInt (n5 t j : Nat) = Int64.ofInt (w5E x (tkS x len 0) (lnK x len) : Nat) ↔ Int64.ofInt (n8 t j : Nat) = Int64.ofInt (w8E x (tkS x len 0) (lnK x len) : Nat) := by
  have l := ln_lt w
  have o7 := o.1
  have b := nm_b h
  have c := w5E_60 l.2
  have e := w8E_63 (by omega) l.2
  rw [y_inj (by omega) (by omega), y_inj (by omega) (by omega)]
  exact w58 (by have := h.2.1; omega) (by omega) h.2.2.1 l.2
/-- where it can't be a name -/
theorem nm_none {j : Nat} (h : nmO t j) (w : lnW x len) (o : ¬ okN x len) (h8 : lnK x len ≤ 8) : ¬ Int64.ofInt (n8 t j : Nat) = Int64.ofInt (w8E x (tkS x len 0) (lnK x len) : Nat) := fun z => by
  have l := ln_lt w
  have b := nm_b h
  have e := w8E_63 h8 l.2
  have b7 := h.2.1
  rw [y_inj (by omega) (by omega)] at z
  obtain ⟨z1, z2⟩ := w8E_inj (by omega) h8 h.2.2.1 l.2 z
  refine o ⟨by omega, fun v hv => h.2.2.2 v ⟨hv.1, hv.2.trans ?_⟩⟩
  rw [← z1]
  exact (w5E_eq z2).symm
end ND
