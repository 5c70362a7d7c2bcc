/-! the ring of States: noted, taken back -/
section RI
variable {L : Nat} {xs : Nat → Int32} {E : q_E} {d : Nat} {M : q_M} {t : q_T} {n : sN} {Q : Option Value → q_M → Prop} {P : q_M → Prop}
/-- the cells of the ring's State p -/
abbrev rgL (p : Nat) : List Nat := [70 + 8 * p, 70 + 8 * p + 1, 70 + 8 * p + 2, 70 + 8 * p + 3, 70 + 8 * p + 4, 70 + 8 * p + 5, 70 + 8 * p + 6, 70 + 8 * p + 7]
set_option maxRecDepth 100000 in
set_option maxHeartbeats 4000000 in
theorem k2_note (p : Nat) (hp : M.1 68 1 = nI p) (h21 : p < 21) (hQ : ∀ M', q_fs (rgL p) [] M M' → s_eq 43 (70 + 8 * p) M M' → Q none M') : q_C q_mt (L, xs, q_shp) E nX0_note (d + 2) 0 0 [.ref 68, .ref 43] M Q := by
  obtain rfl | rfl | rfl | rfl | rfl | rfl | rfl | rfl | rfl | rfl | rfl | rfl | rfl | rfl | rfl | rfl | rfl | rfl | rfl | rfl | rfl : p = 0 ∨ p = 1 ∨ p = 2 ∨ p = 3 ∨ p = 4 ∨ p = 5 ∨ p = 6 ∨ p = 7 ∨ p = 8 ∨ p = 9 ∨ p = 10 ∨ p = 11 ∨ p = 12 ∨ p = 13 ∨ p = 14 ∨ p = 15 ∨ p = 16 ∨ p = 17 ∨ p = 18 ∨ p = 19 ∨ p = 20 := by omega
  · refine w_in 90 [] ?_
    refine ⟨_, hp, ?_⟩
    refine ⟨⟨by decide, by decide⟩, ?_⟩
    exact k2_copy_43_70 (fun M' h1 h2 => hQ M' h1 h2)
  · refine w_in 90 [] ?_
    refine ⟨_, hp, ?_⟩
    refine ⟨⟨by decide, by decide⟩, ?_⟩
    exact k2_copy_43_78 (fun M' h1 h2 => hQ M' h1 h2)
  · refine w_in 90 [] ?_
    refine ⟨_, hp, ?_⟩
    refine ⟨⟨by decide, by decide⟩, ?_⟩
    exact k2_copy_43_86 (fun M' h1 h2 => hQ M' h1 h2)
  · refine w_in 90 [] ?_
    refine ⟨_, hp, ?_⟩
    refine ⟨⟨by decide, by decide⟩, ?_⟩
    exact k2_copy_43_94 (fun M' h1 h2 => hQ M' h1 h2)
  · refine w_in 90 [] ?_
    refine ⟨_, hp, ?_⟩
    refine ⟨⟨by decide, by decide⟩, ?_⟩
    exact k2_copy_43_102 (fun M' h1 h2 => hQ M' h1 h2)
  · refine w_in 90 [] ?_
    refine ⟨_, hp, ?_⟩
    refine ⟨⟨by decide, by decide⟩, ?_⟩
    exact k2_copy_43_110 (fun M' h1 h2 => hQ M' h1 h2)
  · refine w_in 90 [] ?_
    refine ⟨_, hp, ?_⟩
    refine ⟨⟨by decide, by decide⟩, ?_⟩
    exact k2_copy_43_118 (fun M' h1 h2 => hQ M' h1 h2)
  · refine w_in 90 [] ?_
    refine ⟨_, hp, ?_⟩
    refine ⟨⟨by decide, by decide⟩, ?_⟩
    exact k2_copy_43_126 (fun M' h1 h2 => hQ M' h1 h2)
  · refine w_in 90 [] ?_
    refine ⟨_, hp, ?_⟩
    refine ⟨⟨by decide, by decide⟩, ?_⟩
    exact k2_copy_43_134 (fun M' h1 h2 => hQ M' h1 h2)
  · refine w_in 90 [] ?_
    refine ⟨_, hp, ?_⟩
    refine ⟨⟨by decide, by decide⟩, ?_⟩
    exact k2_copy_43_142 (fun M' h1 h2 => hQ M' h1 h2)
  · refine w_in 90 [] ?_
    refine ⟨_, hp, ?_⟩
    refine ⟨⟨by decide, by decide⟩, ?_⟩
    exact k2_copy_43_150 (fun M' h1 h2 => hQ M' h1 h2)
  · refine w_in 90 [] ?_
    refine ⟨_, hp, ?_⟩
    refine ⟨⟨by decide, by decide⟩, ?_⟩
    exact k2_copy_43_158 (fun M' h1 h2 => hQ M' h1 h2)
  · refine w_in 90 [] ?_
    refine ⟨_, hp, ?_⟩
    refine ⟨⟨by decide, by decide⟩, ?_⟩
    exact k2_copy_43_166 (fun M' h1 h2 => hQ M' h1 h2)
  · refine w_in 90 [] ?_
    refine ⟨_, hp, ?_⟩
    refine ⟨⟨by decide, by decide⟩, ?_⟩
    exact k2_copy_43_174 (fun M' h1 h2 => hQ M' h1 h2)
  · refine w_in 90 [] ?_
    refine ⟨_, hp, ?_⟩
    refine ⟨⟨by decide, by decide⟩, ?_⟩
    exact k2_copy_43_182 (fun M' h1 h2 => hQ M' h1 h2)
  · refine w_in 90 [] ?_
    refine ⟨_, hp, ?_⟩
    refine ⟨⟨by decide, by decide⟩, ?_⟩
    exact k2_copy_43_190 (fun M' h1 h2 => hQ M' h1 h2)
  · refine w_in 90 [] ?_
    refine ⟨_, hp, ?_⟩
    refine ⟨⟨by decide, by decide⟩, ?_⟩
    exact k2_copy_43_198 (fun M' h1 h2 => hQ M' h1 h2)
  · refine w_in 90 [] ?_
    refine ⟨_, hp, ?_⟩
    refine ⟨⟨by decide, by decide⟩, ?_⟩
    exact k2_copy_43_206 (fun M' h1 h2 => hQ M' h1 h2)
  · refine w_in 90 [] ?_
    refine ⟨_, hp, ?_⟩
    refine ⟨⟨by decide, by decide⟩, ?_⟩
    exact k2_copy_43_214 (fun M' h1 h2 => hQ M' h1 h2)
  · refine w_in 90 [] ?_
    refine ⟨_, hp, ?_⟩
    refine ⟨⟨by decide, by decide⟩, ?_⟩
    exact k2_copy_43_222 (fun M' h1 h2 => hQ M' h1 h2)
  · refine w_in 90 [] ?_
    refine ⟨_, hp, ?_⟩
    refine ⟨⟨by decide, by decide⟩, ?_⟩
    exact k2_copy_43_230 (fun M' h1 h2 => hQ M' h1 h2)
set_option maxRecDepth 100000 in
set_option maxHeartbeats 4000000 in
theorem k2_restore (p : Nat) (hp : M.1 68 1 = nI p) (h21 : p < 21) (hQ : ∀ M', q_fs [43, 44, 45, 46, 47, 48, 49, 50] [] M M' → s_eq (70 + 8 * p) 43 M M' → Q none M') : q_C q_mt (L, xs, q_shp) E nX0_restore (d + 2) 0 0 [.ref 68, .ref 43] M Q := by
  obtain rfl | rfl | rfl | rfl | rfl | rfl | rfl | rfl | rfl | rfl | rfl | rfl | rfl | rfl | rfl | rfl | rfl | rfl | rfl | rfl | rfl : p = 0 ∨ p = 1 ∨ p = 2 ∨ p = 3 ∨ p = 4 ∨ p = 5 ∨ p = 6 ∨ p = 7 ∨ p = 8 ∨ p = 9 ∨ p = 10 ∨ p = 11 ∨ p = 12 ∨ p = 13 ∨ p = 14 ∨ p = 15 ∨ p = 16 ∨ p = 17 ∨ p = 18 ∨ p = 19 ∨ p = 20 := by omega
  · refine w_in 90 [] ?_
    refine ⟨_, hp, ?_⟩
    refine ⟨⟨by decide, by decide⟩, ?_⟩
    exact k2_copy_70_43 (fun M' h1 h2 => hQ M' h1 h2)
  · refine w_in 90 [] ?_
    refine ⟨_, hp, ?_⟩
    refine ⟨⟨by decide, by decide⟩, ?_⟩
    exact k2_copy_78_43 (fun M' h1 h2 => hQ M' h1 h2)
  · refine w_in 90 [] ?_
    refine ⟨_, hp, ?_⟩
    refine ⟨⟨by decide, by decide⟩, ?_⟩
    exact k2_copy_86_43 (fun M' h1 h2 => hQ M' h1 h2)
  · refine w_in 90 [] ?_
    refine ⟨_, hp, ?_⟩
    refine ⟨⟨by decide, by decide⟩, ?_⟩
    exact k2_copy_94_43 (fun M' h1 h2 => hQ M' h1 h2)
  · refine w_in 90 [] ?_
    refine ⟨_, hp, ?_⟩
    refine ⟨⟨by decide, by decide⟩, ?_⟩
    exact k2_copy_102_43 (fun M' h1 h2 => hQ M' h1 h2)
  · refine w_in 90 [] ?_
    refine ⟨_, hp, ?_⟩
    refine ⟨⟨by decide, by decide⟩, ?_⟩
    exact k2_copy_110_43 (fun M' h1 h2 => hQ M' h1 h2)
  · refine w_in 90 [] ?_
    refine ⟨_, hp, ?_⟩
    refine ⟨⟨by decide, by decide⟩, ?_⟩
    exact k2_copy_118_43 (fun M' h1 h2 => hQ M' h1 h2)
  · refine w_in 90 [] ?_
    refine ⟨_, hp, ?_⟩
    refine ⟨⟨by decide, by decide⟩, ?_⟩
    exact k2_copy_126_43 (fun M' h1 h2 => hQ M' h1 h2)
  · refine w_in 90 [] ?_
    refine ⟨_, hp, ?_⟩
    refine ⟨⟨by decide, by decide⟩, ?_⟩
    exact k2_copy_134_43 (fun M' h1 h2 => hQ M' h1 h2)
  · refine w_in 90 [] ?_
    refine ⟨_, hp, ?_⟩
    refine ⟨⟨by decide, by decide⟩, ?_⟩
    exact k2_copy_142_43 (fun M' h1 h2 => hQ M' h1 h2)
  · refine w_in 90 [] ?_
    refine ⟨_, hp, ?_⟩
    refine ⟨⟨by decide, by decide⟩, ?_⟩
    exact k2_copy_150_43 (fun M' h1 h2 => hQ M' h1 h2)
  · refine w_in 90 [] ?_
    refine ⟨_, hp, ?_⟩
    refine ⟨⟨by decide, by decide⟩, ?_⟩
    exact k2_copy_158_43 (fun M' h1 h2 => hQ M' h1 h2)
  · refine w_in 90 [] ?_
    refine ⟨_, hp, ?_⟩
    refine ⟨⟨by decide, by decide⟩, ?_⟩
    exact k2_copy_166_43 (fun M' h1 h2 => hQ M' h1 h2)
  · refine w_in 90 [] ?_
    refine ⟨_, hp, ?_⟩
    refine ⟨⟨by decide, by decide⟩, ?_⟩
    exact k2_copy_174_43 (fun M' h1 h2 => hQ M' h1 h2)
  · refine w_in 90 [] ?_
    refine ⟨_, hp, ?_⟩
    refine ⟨⟨by decide, by decide⟩, ?_⟩
    exact k2_copy_182_43 (fun M' h1 h2 => hQ M' h1 h2)
  · refine w_in 90 [] ?_
    refine ⟨_, hp, ?_⟩
    refine ⟨⟨by decide, by decide⟩, ?_⟩
    exact k2_copy_190_43 (fun M' h1 h2 => hQ M' h1 h2)
  · refine w_in 90 [] ?_
    refine ⟨_, hp, ?_⟩
    refine ⟨⟨by decide, by decide⟩, ?_⟩
    exact k2_copy_198_43 (fun M' h1 h2 => hQ M' h1 h2)
  · refine w_in 90 [] ?_
    refine ⟨_, hp, ?_⟩
    refine ⟨⟨by decide, by decide⟩, ?_⟩
    exact k2_copy_206_43 (fun M' h1 h2 => hQ M' h1 h2)
  · refine w_in 90 [] ?_
    refine ⟨_, hp, ?_⟩
    refine ⟨⟨by decide, by decide⟩, ?_⟩
    exact k2_copy_214_43 (fun M' h1 h2 => hQ M' h1 h2)
  · refine w_in 90 [] ?_
    refine ⟨_, hp, ?_⟩
    refine ⟨⟨by decide, by decide⟩, ?_⟩
    exact k2_copy_222_43 (fun M' h1 h2 => hQ M' h1 h2)
  · refine w_in 90 [] ?_
    refine ⟨_, hp, ?_⟩
    refine ⟨⟨by decide, by decide⟩, ?_⟩
    exact k2_copy_230_43 (fun M' h1 h2 => hQ M' h1 h2)
theorem rg_up : ∀ p, p < 21 → (nI p + Int32.ofInt 1) - (nI p + Int32.ofInt 1) / Int32.ofInt 21 * Int32.ofInt 21 = nI ((p + 1) % 21) := by decide +kernel
theorem rg_dn : ∀ p, p < 21 → (nI p + Int32.ofInt 20) - (nI p + Int32.ofInt 20) / Int32.ofInt 21 * Int32.ofInt 21 = nI ((p + 20) % 21) := by decide +kernel
theorem rg_mn : ∀ s, s < 21 → (if nI s + Int32.ofInt 1 < Int32.ofInt 20 then nI s + Int32.ofInt 1 else Int32.ofInt 20) = nI (min 20 (s + 1)) := by decide +kernel
set_option maxRecDepth 100000 in
set_option maxHeartbeats 4000000 in
theorem k2_commit (p s : Nat) (hp : M.1 68 1 = nI p) (hs : M.1 68 2 = nI s) (h21 : p < 21) (h20 : s ≤ 20) (hQ : Q none (q_si (q_si M 68 1 (nI ((p + 1) % 21))) 68 2 (nI (min 20 (s + 1))))) : q_C q_mt (L, xs, q_shp) E nX0_commit (d + 1) 0 0 [.ref 68] M Q := by
  refine w_in 90 [] ?_
  refine ⟨_, hp, ?_⟩
  refine And.intro (by decide) ?_
  refine ⟨_, rg_up p h21, ?_⟩
  refine ⟨_, hs, ?_⟩
  refine ⟨_, rg_mn s (by omega), ?_⟩
  exact hQ
/-- the class's ring against a row of rows -/
def g_Rg (M : q_M) (t : q_T) (p s : Nat) (H : Nat → sN) : Prop := p < 21 ∧ s ≤ 20 ∧ M.1 68 1 = nI p ∧ M.1 68 2 = nI s ∧ ∀ i, i < s → g_S (70 + 8 * ((p + 21 - s + i) % 21)) M t (H i)
end RI
