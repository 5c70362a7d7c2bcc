/-! tokens as the class reads them -/
section TK
variable {L : Nat} {xs : Nat → Int32} {E : q_E} {d : Nat} {M : q_M} {t : q_T} {n : sN} {Q : Option Value → q_M → Prop} {P : q_M → Prop}
variable {x : Nat → Nat} {len : Nat}
/-- the class's text -/
def g_tx (M : q_M) (x : Nat → Nat) (len : Nat) : Prop := M.1 3 2 = nI len ∧ len ≤ 1200 ∧ ∀ i, i < len → M.1 4 i = nI (x i) ∧ x i < 256
theorem g_tx.fs {l : List Nat} {f : List (Nat × Nat)} {M' : q_M} (h : g_tx M x len) (hf : q_fs l f M M') (h0 : q_scr l f 3 2 = false := by exact rfl) (h1 : ∀ i, q_scr l f 4 i = false := by intro i; exact rfl) : g_tx M' x len := ⟨(hf 3 2 h0).1.trans h.1, h.2.1, fun i hi => ⟨(hf 4 i (h1 i)).1.trans (h.2.2 i hi).1, (h.2.2 i hi).2⟩⟩
abbrev fN : List (Nat × Nat) := [(3, 3), (3, 4), (3, 10)]
set_option maxRecDepth 100000 in
set_option maxHeartbeats 4000000 in
theorem k2_readNumber (g : g_tx M x len) {i : Nat} (hi : i ≤ len) (h9 : M.1 3 9 = nI i) (h10 : M.1 3 10 = nI i) (h4 : M.1 3 4 = Int32.ofInt 0) (hQ : ∀ M' r, r = rnE isDg x (len - i) i → q_fs [] fN M M' → M'.1 3 3 = nI (if r - i ≤ 4 then 3 else 5) → M'.1 3 4 = nI (nvE x i (r - i)) → M'.1 3 10 = nI r → Q none M') : q_C q_mt (L, xs, q_shp) E nX9_readNumber (d) 0 0 [.ref 3] M Q := by
  obtain ⟨s1, s2, s3, s4⟩ := rnE_s (f := isDg) (x := x) (k := len - i) (i := i)
  have hl := g.2.1
  have hQ := fun M' => hQ M' _ rfl
  revert s1 s2 s3 s4 hQ
  generalize rnE isDg x (len - i) i = r
  intro s1 s2 s3 s4 hQ
  have dg : ∀ j, i ≤ j → j < r → 48 ≤ x j ∧ x j ≤ 57 := fun j h1 h2 => isDg_t.mp (s3 j h1 h2)
  have W := lp_m (W := fun j M' => i ≤ j → q_G q_mt (L, xs, q_shp) E nX9_readNumber (d) 0 0 (q_Q (L, xs, q_shp) E Q) 0 [some (.ref 3)] [] M') (J := fun j M' => q_fs [] fN M M' ∧ M'.1 3 10 = nI j ∧ M'.1 3 4 = nI (nvE x i (j - i))) r ?_ ?_ i M s1 ⟨q_fs.rf, h10, by rw [Nat.sub_self]; exact h4⟩ (Nat.le_refl _)
  · refine w_in 90 [0] ?_
    exact W
  · rintro M' ⟨hf, e10, e4⟩ hij
    have g' := g.fs hf
    have e9 : M'.1 3 9 = nI i := (hf 3 9 rfl).1.trans h9
    have ex : q_G q_mt (L, xs, q_shp) E nX9_readNumber (d) 0 0 (q_Q (L, xs, q_shp) E Q) 89 [some (.ref 3)] [] M' := by
      refine w_at 90 [0, 89] ?_
      sorry
    refine w_at 90 [0, 89] ?_
    sorry
  · rintro j M' hj ⟨hf, e10, e4⟩ ih hij
    have g' := g.fs hf
    refine w_at 90 [0, 89] ?_
    sorry
end TK
