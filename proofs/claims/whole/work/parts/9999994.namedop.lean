/-! the call named -/
section NO
variable {L : Nat} {xs : Nat → Int32} {E : q_E} {d : Nat} {M : q_M} {t : q_T} {n : sN} {Q : Option Value → q_M → Prop} {P : q_M → Prop}
variable {x : Nat → Nat} {len : Nat}
abbrev fNc : List (Nat × Nat) := [(3, 2), (3, 3), (3, 4), (3, 5), (3, 9), (3, 10)]
abbrev fNd : List (Nat × Nat) := [(3, 2), (3, 3), (3, 4), (3, 5), (3, 9), (3, 10), (271, 1), (271, 7), (271, 8), (271, 9), (271, 10)]
def hitN (t : q_T) (x : Nat → Nat) (len j : Nat) : Prop := (lnW x len ∧ okN x len) ∧ Int64.ofInt (n5 t j : Nat) = Int64.ofInt (w5E x (tkS x len 0) (lnK x len) : Nat)
/-- the first one that is called so -/
def anN (t : q_T) (x : Nat → Nat) (len o N : Nat) (v : Int32) : Prop := (∃ i, i < N ∧ hitN t x len (o + i) ∧ (∀ j, j < i → ¬ hitN t x len (o + j)) ∧ v = nI i) ∨ ((∀ i, i < N → ¬ hitN t x len (o + i)) ∧ v = Int32.ofInt (-1))
theorem anN.un {o N : Nat} {v v' : Int32} (h : anN t x len o N v) (h' : anN t x len o N v') : v' = v := by
  rcases h with ⟨i, a1, a2, a3, a4⟩ | ⟨a1, a2⟩
  · rcases h' with ⟨j, b1, b2, b3, b4⟩ | ⟨b1, b2⟩
    · rcases Nat.lt_trichotomy i j with z | z | z
      · exact absurd a2 (b3 i z)
      · rw [a4, b4, z]
      · exact absurd b2 (a3 j z)
    · exact absurd a2 (b1 i a1)
  · rcases h' with ⟨j, b1, b2, b3, b4⟩ | ⟨b1, b2⟩
    · exact absurd b2 (a1 j b1)
    · rw [a2, b2]
-- the reference's find
set_option maxRecDepth 100000 in
set_option maxHeartbeats 4000000 in
theorem k_nameAns {a b : Int32} (o N : Nat) (hoN : o + N ≤ 16) (hn : ∀ i, i < N → nmO t (o + i) ∧ M.2 282 (o + i) = Int64.ofInt (n8 t (o + i) : Nat)) {v : Int64} (hv : (lnW x len ∧ v = Int64.ofInt (w8E x (tkS x len 0) (lnK x len) : Nat)) ∨ (¬ lnW x len ∧ v = 0)) (hQ : ∀ r, anN t x len o N r → Q (some (.int r)) M) (ha : a = nI o := by (first | assumption | (simp only [z_nat, z_lit, ← Int32.ofInt_add, ← Int32.ofInt_sub, ← Int32.ofInt_mul]; exact congrArg Int32.ofInt (by omega)) | (simp only [z_nat, z_lit, ← Int32.ofInt_add, ← Int32.ofInt_sub, ← Int32.ofInt_mul]; done) | exact congrArg Int32.ofInt (by omega) | rfl)) (hb : b = nI N := by (first | assumption | (simp only [z_nat, z_lit, ← Int32.ofInt_add, ← Int32.ofInt_sub, ← Int32.ofInt_mul]; exact congrArg Int32.ofInt (by omega)) | (simp only [z_nat, z_lit, ← Int32.ofInt_add, ← Int32.ofInt_sub, ← Int32.ofInt_mul]; done) | exact congrArg Int32.ofInt (by omega) | rfl)) : q_C q_mt (L, xs, q_shp) E nX12_namedOf (d) 0 0 [.ref 271, .int (a), .int (b), .long (v)] M Q := by
  subst ha hb
  have key : ∀ i, i < N → ((¬ v = 0 ∧ M.2 282 (o + i) = v) ↔ hitN t x len (o + i)) := fun i hi => by
    obtain ⟨n1, n2⟩ := hn i hi
    rw [n2]
    rcases hv with ⟨w, rfl⟩ | ⟨w, rfl⟩
    · have l := ln_lt w
      by_cases q : okN x len
      · rw [← nm_same n1 w q]
        refine ⟨fun z => ⟨⟨w, q⟩, z.2⟩, fun z => ⟨fun y => ?_, z.2⟩⟩
        have e := w8E_63 (by have := q.1; omega) l.2
        have y : Int64.ofInt (w8E x (tkS x len 0) (lnK x len) : Nat) = Int64.ofInt ((0 : Nat) : Int) := y
        rw [y_inj e (by omega)] at y
        have := (w8E_inj (y := x) (j := 0) (m := 0) (by have := q.1; omega) (by omega) l.2 (fun p hp => by omega) y).1
        omega
      · refine ⟨fun z => ?_, fun z => absurd z.1.2 q⟩
        rcases Nat.lt_or_ge 8 (lnK x len) with h8 | h8
        · exact absurd (show Int64.ofInt (w8E x (tkS x len 0) (lnK x len) : Nat) = 0 by rw [w8E_0 h8]; rfl) z.1
        · exact absurd z.2 (nm_none n1 w q h8)
    · exact ⟨fun z => absurd rfl z.1, fun z => absurd z.1.1 w⟩
  refine k_namedOf o N hoN (fun i hv0 hf => hQ _ (Or.inl ⟨i, hf.1, (key i hf.1).mp ⟨hv0, hf.2.1⟩, fun j hj z => hf.2.2 j hj ((key j (by have := hf.1; omega)).mpr z).2, rfl⟩)) (fun h => hQ _ (Or.inr ⟨fun i hi z => ?_, rfl⟩))
  have z := (key i hi).mpr z
  rcases h with h | h
  · exact z.1 h
  · exact h i hi z.2
end NO
