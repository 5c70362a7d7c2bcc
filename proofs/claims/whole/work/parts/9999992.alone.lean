/-! a word alone, as the reference sees it -/
section WA
variable {L : Nat} {xs : Nat → Int32} {E : q_E} {d : Nat} {M : q_M} {t : q_T} {n : sN} {Q : Option Value → q_M → Prop} {P : q_M → Prop}
variable {x : Nat → Nat} {len : Nat}
set_option maxRecDepth 100000 in
set_option maxHeartbeats 4000000 in
theorem k_wordAlone (g : g_ty M x len) (h7 : M.1 271 1 = nI len) (h1 : ∀ M', q_fs lSp fSp M M' → M'.1 271 1 = Int32.ofInt 0 → lnW x len → Q (some (.long (Int64.ofInt (w8E x (tkS x len 0) (lnK x len) : Nat)))) M') (h0 : ∀ M', q_fs lSp fSp M M' → M'.1 271 1 = Int32.ofInt 0 → ¬ lnW x len → Q (some (.long 0)) M') : q_C q_mt (L, xs, q_shp) E nX12_wordAlone (d + 3) 0 0 [.ref 271] M Q := by
  have hl := g.1
  refine w_in 90 [] ?_
  refine k_splits g h7 (fun M1 T hT hsp hTl e3 e4 => ?_)
  obtain ⟨hf, e7, e1, e8, e9, e10, hk⟩ := hsp
  refine ⟨_, e7, ?_⟩
  refine z_ne (T : Int) 1 (fun z => h0 M1 hf e1 (fun w => ?_)) (fun z => ?_)
  · by_cases q : T = 0
    · rw [q] at hTl
      have := w.1
      omega
    · have := (hk 1 (by omega)).1
      have := w.2.2
      omega
  · have eT : T = 1 := by omega
    subst eT
    obtain ⟨q1, q2, hc⟩ := hk 0 (by omega)
    rcases hc with ⟨c1, c2, c3, c4⟩ | ⟨c0, c1, c2, c3⟩ | ⟨c0, c1, c2, c3⟩
    · refine ⟨0, _, by (first | assumption | (simp only [z_nat, z_lit, ← Int32.ofInt_add, ← Int32.ofInt_sub, ← Int32.ofInt_mul]; exact congrArg Int32.ofInt (by omega)) | (simp only [z_nat, z_lit, ← Int32.ofInt_add, ← Int32.ofInt_sub, ← Int32.ofInt_mul]; done) | exact congrArg Int32.ofInt (by omega) | rfl), by (dsimp only; omega), c2, ?_⟩
      refine z_ne 1 1 (fun z => absurd rfl z) (fun _ => ?_)
      refine ⟨0, _, by (first | assumption | (simp only [z_nat, z_lit, ← Int32.ofInt_add, ← Int32.ofInt_sub, ← Int32.ofInt_mul]; exact congrArg Int32.ofInt (by omega)) | (simp only [z_nat, z_lit, ← Int32.ofInt_add, ← Int32.ofInt_sub, ← Int32.ofInt_mul]; done) | exact congrArg Int32.ofInt (by omega) | rfl), by (dsimp only; omega), c3, ?_⟩
      exact h1 M1 hf e1 ⟨q1, c1, hTl⟩
    · refine ⟨0, _, by (first | assumption | (simp only [z_nat, z_lit, ← Int32.ofInt_add, ← Int32.ofInt_sub, ← Int32.ofInt_mul]; exact congrArg Int32.ofInt (by omega)) | (simp only [z_nat, z_lit, ← Int32.ofInt_add, ← Int32.ofInt_sub, ← Int32.ofInt_mul]; done) | exact congrArg Int32.ofInt (by omega) | rfl), by (dsimp only; omega), c2, ?_⟩
      exact z_ne ((if tkR x len (tkS x len 0) - tkS x len 0 ≤ 4 then 2 else 4 : Nat) : Int) 1 (fun _ => h0 M1 hf e1 (fun w => by have y := w.2.1; rw [c0] at y; cases y)) (fun z => by split at z <;> omega) rfl rfl (by split <;> omega)
    · refine ⟨0, _, by (first | assumption | (simp only [z_nat, z_lit, ← Int32.ofInt_add, ← Int32.ofInt_sub, ← Int32.ofInt_mul]; exact congrArg Int32.ofInt (by omega)) | (simp only [z_nat, z_lit, ← Int32.ofInt_add, ← Int32.ofInt_sub, ← Int32.ofInt_mul]; done) | exact congrArg Int32.ofInt (by omega) | rfl), by (dsimp only; omega), c2, ?_⟩
      exact z_ne (if isSg (x (tkS x len 0)) = true then 3 else 4) 1 (fun _ => h0 M1 hf e1 (fun w => by have y := w.2.1; rw [c0] at y; cases y)) (fun z => by split at z <;> omega) rfl rfl (by split <;> omega)
end WA
