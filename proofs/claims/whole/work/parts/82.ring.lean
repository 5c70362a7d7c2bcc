/-! the ring of States: noted, taken back -/
section RI
variable {L : Nat} {xs : Nat → Int32} {E : q_E} {d : Nat} {M : q_M} {t : q_T} {n : sN} {Q : Option Value → q_M → Prop} {P : q_M → Prop}
/-- the cells of the ring's State p -/
abbrev rgL (p : Nat) : List Nat := [70 + 8 * p, 70 + 8 * p + 1, 70 + 8 * p + 2, 70 + 8 * p + 3, 70 + 8 * p + 4, 70 + 8 * p + 5, 70 + 8 * p + 6, 70 + 8 * p + 7]
set_option maxRecDepth 100000 in
set_option maxHeartbeats 4000000 in
theorem k2_note (p : Nat) (hp : M.1 68 1 = nI p) (h21 : p < 21) (hQ : ∀ M', q_fs (rgL p) [] M M' → s_eq 43 (70 + 8 * p) M M' → Q none M') : q_C q_mt (L, xs, q_shp) E nX0_note (d + 2) 0 0 [.ref 68, .ref 43] M Q := by
  obtain rfl | rfl | rfl | rfl | rfl | rfl | rfl | rfl | rfl | rfl | rfl | rfl | rfl | rfl | rfl | rfl | rfl | rfl | rfl | rfl | rfl : p = 0 ∨ p = 1 ∨ p = 2 ∨ p = 3 ∨ p = 4 ∨ p = 5 ∨ p = 6 ∨ p = 7 ∨ p = 8 ∨ p = 9 ∨ p = 10 ∨ p = 11 ∨ p = 12 ∨ p = 13 ∨ p = 14 ∨ p = 15 ∨ p = 16 ∨ p = 17 ∨ p = 18 ∨ p = 19 ∨ p = 20 := by omega
  · refine w_in 90 [] ?_
    refine ⟨_, hp, ?_⟩
    refine ⟨q_in0L 0 21 rfl, ?_⟩
    exact k2_copy_43_70 (fun M' h1 h2 => hQ M' h1 h2)
  · refine w_in 90 [] ?_
    refine ⟨_, hp, ?_⟩
    refine ⟨q_in0L 1 21 rfl, ?_⟩
    exact k2_copy_43_78 (fun M' h1 h2 => hQ M' h1 h2)
  · refine w_in 90 [] ?_
    refine ⟨_, hp, ?_⟩
    refine ⟨q_in0L 2 21 rfl, ?_⟩
    exact k2_copy_43_86 (fun M' h1 h2 => hQ M' h1 h2)
  · refine w_in 90 [] ?_
    refine ⟨_, hp, ?_⟩
    refine ⟨q_in0L 3 21 rfl, ?_⟩
    exact k2_copy_43_94 (fun M' h1 h2 => hQ M' h1 h2)
  · refine w_in 90 [] ?_
    refine ⟨_, hp, ?_⟩
    refine ⟨q_in0L 4 21 rfl, ?_⟩
    exact k2_copy_43_102 (fun M' h1 h2 => hQ M' h1 h2)
  · refine w_in 90 [] ?_
    refine ⟨_, hp, ?_⟩
    refine ⟨q_in0L 5 21 rfl, ?_⟩
    exact k2_copy_43_110 (fun M' h1 h2 => hQ M' h1 h2)
  · refine w_in 90 [] ?_
    refine ⟨_, hp, ?_⟩
    refine ⟨q_in0L 6 21 rfl, ?_⟩
    exact k2_copy_43_118 (fun M' h1 h2 => hQ M' h1 h2)
  · refine w_in 90 [] ?_
    refine ⟨_, hp, ?_⟩
    refine ⟨q_in0L 7 21 rfl, ?_⟩
    exact k2_copy_43_126 (fun M' h1 h2 => hQ M' h1 h2)
  · refine w_in 90 [] ?_
    refine ⟨_, hp, ?_⟩
    refine ⟨q_in0L 8 21 rfl, ?_⟩
    exact k2_copy_43_134 (fun M' h1 h2 => hQ M' h1 h2)
  · refine w_in 90 [] ?_
    refine ⟨_, hp, ?_⟩
    refine ⟨q_in0L 9 21 rfl, ?_⟩
    exact k2_copy_43_142 (fun M' h1 h2 => hQ M' h1 h2)
  · refine w_in 90 [] ?_
    refine ⟨_, hp, ?_⟩
    refine ⟨q_in0L 10 21 rfl, ?_⟩
    exact k2_copy_43_150 (fun M' h1 h2 => hQ M' h1 h2)
  · refine w_in 90 [] ?_
    refine ⟨_, hp, ?_⟩
    refine ⟨q_in0L 11 21 rfl, ?_⟩
    exact k2_copy_43_158 (fun M' h1 h2 => hQ M' h1 h2)
  · refine w_in 90 [] ?_
    refine ⟨_, hp, ?_⟩
    refine ⟨q_in0L 12 21 rfl, ?_⟩
    exact k2_copy_43_166 (fun M' h1 h2 => hQ M' h1 h2)
  · refine w_in 90 [] ?_
    refine ⟨_, hp, ?_⟩
    refine ⟨q_in0L 13 21 rfl, ?_⟩
    exact k2_copy_43_174 (fun M' h1 h2 => hQ M' h1 h2)
  · refine w_in 90 [] ?_
    refine ⟨_, hp, ?_⟩
    refine ⟨q_in0L 14 21 rfl, ?_⟩
    exact k2_copy_43_182 (fun M' h1 h2 => hQ M' h1 h2)
  · refine w_in 90 [] ?_
    refine ⟨_, hp, ?_⟩
    refine ⟨q_in0L 15 21 rfl, ?_⟩
    exact k2_copy_43_190 (fun M' h1 h2 => hQ M' h1 h2)
  · refine w_in 90 [] ?_
    refine ⟨_, hp, ?_⟩
    refine ⟨q_in0L 16 21 rfl, ?_⟩
    exact k2_copy_43_198 (fun M' h1 h2 => hQ M' h1 h2)
  · refine w_in 90 [] ?_
    refine ⟨_, hp, ?_⟩
    refine ⟨q_in0L 17 21 rfl, ?_⟩
    exact k2_copy_43_206 (fun M' h1 h2 => hQ M' h1 h2)
  · refine w_in 90 [] ?_
    refine ⟨_, hp, ?_⟩
    refine ⟨q_in0L 18 21 rfl, ?_⟩
    exact k2_copy_43_214 (fun M' h1 h2 => hQ M' h1 h2)
  · refine w_in 90 [] ?_
    refine ⟨_, hp, ?_⟩
    refine ⟨q_in0L 19 21 rfl, ?_⟩
    exact k2_copy_43_222 (fun M' h1 h2 => hQ M' h1 h2)
  · refine w_in 90 [] ?_
    refine ⟨_, hp, ?_⟩
    refine ⟨q_in0L 20 21 rfl, ?_⟩
    exact k2_copy_43_230 (fun M' h1 h2 => hQ M' h1 h2)
end RI
