/-! what the calls owe: change, keep, back -/
theorem q_f2.fZ {M M' : q_M} (h : q_f2 M M') : q_fZ M M' := fun r i hr => h r i (by
  have o := kZ.o hr
  have nr : ∀ a b, ¬ (a ≤ r ∧ r ≤ b) → c_rng a b r = false := fun a b z => Bool.eq_false_iff.mpr (fun y => z (c_rng.o y))
  have nb : ∀ a, ¬ r = a → Nat.beq r a = false := fun a z => Bool.eq_false_iff.mpr (fun y => z (Nat.eq_of_beq_eq_true y))
  unfold aO2 aO
  rw [nr 43 50 (by omega), nr 70 241 (by omega), nr 284 286 (by omega), nr 293 294 (by omega), nb 243 (by omega), nb 68 (by omega), nb 271 (by omega), nb 20 (by omega), nb 245 (by omega), nb 289 (by omega), nb 290 (by omega)]
  rfl)
section WX
variable {L : Nat} {xs : Nat → Int32} {E : q_E}
theorem w_change : ∀ a b c : Int32, q_opOK (L, xs, q_shp) E iW iW nX11_change nX12_change 1299 [.int a, .int b, .int c] := fun a b c M ⟨t, n, p, s, H, kp, h⟩ => o_change (d := 1279) h.1 h.2.2.1.1 h.2.2.1.2.1 (fun M' m p' s' H' i hf => ⟨t, m, p', s', H', kp, h.Z i hf.fZ (h.2.1.1.eq (hf 3 2 rfl).1 (hf 271 1 rfl).1 (fun i => (hf 4 i rfl).1) (fun i => (hf 272 i rfl).1)) (h.2.1.2.eq (hf 2 14 rfl).1 (hf 2 15 rfl).1 (hf 2 16 rfl).1 (hf 271 11 rfl).1 (hf 271 12 rfl).1 (hf 271 29 rfl).1)⟩)
/-- behind keep -/
theorem iX.kp' {l : List Nat} {f : List (Nat × Nat)} {M M' : q_M} {t : q_T} {n : sN} {p s : Nat} {H : Nat → sN} {kp kp' : Nat → Option sN} (h : iX M t n p s H kp) (hf : q_fs l f M M') (kpp : g_Kp M' t kp') (kj : ∀ k m, k < 2 → kp' k = some m → b_J t m) (o1 : (l.all (g_q 43) && f.all (fun p => g_q 43 p.1)) = true := by exact rfl) (o2 : (l.all (fun a => !(c_rng 68 237 a)) && f.all (fun q => !(c_rng 68 237 q.1))) = true := by exact rfl) (o3 : q_scr l f 271 28 = false := by exact rfl) (o4 : ∀ i, q_scr l f 286 i = false := by intro i; exact rfl) (oY : (l.all (fun a => !(kY a)) && f.all (fun q => !(kY q.1))) = true := by exact rfl) (m0 : q_scr l f 244 8 = false := by exact rfl) (m1 : ∀ i, q_scr l f 246 i = false := by intro i; exact rfl) (m2 : ∀ i, q_scr l f 247 i = false := by intro i; exact rfl) (a1 : q_scr l f 3 2 = false := by exact rfl) (a2 : q_scr l f 271 1 = false := by exact rfl) (a3 : q_scr l f 2 14 = false := by exact rfl) (a4 : q_scr l f 2 15 = false := by exact rfl) (a5 : q_scr l f 2 16 = false := by exact rfl) (a6 : q_scr l f 271 11 = false := by exact rfl) (a7 : q_scr l f 271 12 = false := by exact rfl) (a8 : q_scr l f 271 29 = false := by exact rfl) (c4 : ∀ i, q_scr l f 4 i = false := by intro i; exact rfl) (c272 : ∀ i, q_scr l f 272 i = false := by intro i; exact rfl) : iX M' t n p s H kp' := h.Y (h.1.fs hf o1 o2 o3 o4) (hf.fY oY) (h.2.1.1.eq (hf 3 2 a1).1 (hf 271 1 a2).1 (fun i => (hf 4 i (c4 i)).1) (fun i => (hf 272 i (c272 i)).1)) (h.2.1.2.eq (hf 2 14 a3).1 (hf 2 15 a4).1 (hf 2 16 a5).1 (hf 271 11 a6).1 (hf 271 12 a7).1 (hf 271 29 a8).1) (h.2.2.2.2.1.fs h.1.1.1.R.d10 hf m0 m1 m2) kpp kj
theorem w_keep : ∀ a : Int32, q_opOK (L, xs, q_shp) E iW iW nX11_keep nX12_keep 1299 [.int a] := fun a M ⟨t, n, p, s, H, kp, h⟩ => by
  by_cases q : t 0 0 = 0 ∨ ¬ ∃ k, k < 2 ∧ a = nI k
  · exact o_keep_no (d := 1293) h.1.1.1 q ⟨t, n, p, s, H, kp, h⟩
  · have q0 : ¬ t 0 0 = 0 := fun y => q (Or.inl y)
    obtain ⟨k, hk, rfl⟩ : ∃ k, k < 2 ∧ a = nI k := Classical.byContradiction (fun y => q (Or.inr y))
    have kj : ∀ j, ∀ i m, i < 2 → (if i = j then some n else kp i) = some m → b_J t m := fun j i m hi e => by
      by_cases y : i = j
      · rw [if_pos y] at e
        cases e
        exact h.1.1.2
      · rw [if_neg y] at e
        exact h.2.2.2.2.2.2 i m hi e
    obtain rfl | rfl : k = 0 ∨ k = 1 := by omega
    · exact o_keep_0 (d := 1293) h.1.1.1 h.2.2.2.2.2.1 q0 (fun M' hf g => ⟨t, n, p, s, H, _, h.kp' hf g (kj 0)⟩)
    · exact o_keep_1 (d := 1293) h.1.1.1 h.2.2.2.2.2.1 q0 (fun M' hf g => ⟨t, n, p, s, H, _, h.kp' hf g (kj 1)⟩)
theorem w_back : ∀ a : Int32, q_opOK (L, xs, q_shp) E iW iW nX11_back nX12_back 1299 [.int a] := fun a M ⟨t, n, p, s, H, kp, h⟩ => by
  by_cases q : ¬ ∃ k, k < 2 ∧ a = nI k
  · exact o_back_no (d := 1293) h.1.1.1 q ⟨t, n, p, s, H, kp, h⟩
  · obtain ⟨k, hk, rfl⟩ : ∃ k, k < 2 ∧ a = nI k := Classical.byContradiction q
    have fin : ∀ m, b_J t m → ∀ M', q_fs [43, 44, 45, 46, 47, 48, 49, 50, 284] [(68, 1), (68, 2), (271, 28)] M M' → M'.1 68 1 = nI 0 → M'.1 68 2 = nI 0 → M'.1 271 28 = nI 0 → g_A 43 M' t m → iW M' := fun m hj M' hf e1 e2 e3 gA => ⟨t, m, 0, 0, H, kp, h.Z ⟨⟨gA, hj⟩, ⟨by decide, by decide, e1, e2, fun j hj => absurd hj (Nat.not_lt_zero _)⟩, ⟨by decide, e3, fun j hj => absurd hj (Nat.not_lt_zero _)⟩, fun j hj => absurd hj (Nat.not_lt_zero _)⟩ hf.fZ (h.2.1.1.eq (hf.p1 3 2) (hf.p1 271 1) (fun i => hf.p1 4 i) (fun i => hf.p1 272 i)) (h.2.1.2.eq (hf.p1 2 14) (hf.p1 2 15) (hf.p1 2 16) (hf.p1 271 11) (hf.p1 271 12) (hf.p1 271 29))⟩
    obtain rfl | rfl : k = 0 ∨ k = 1 := by omega
    · cases e : kp 0 with
      | none => exact o_back_none_0 (d := 1293) h.2.2.2.2.2.1 e ⟨t, n, p, s, H, kp, h⟩
      | some m => exact o_back_0 (d := 1293) h.1.1.1 h.2.2.2.2.2.1 e (h.2.2.2.2.2.2 0 m (by omega) e).1.1 (fin m (h.2.2.2.2.2.2 0 m (by omega) e))
    · cases e : kp 1 with
      | none => exact o_back_none_1 (d := 1293) h.2.2.2.2.2.1 e ⟨t, n, p, s, H, kp, h⟩
      | some m => exact o_back_1 (d := 1293) h.1.1.1 h.2.2.2.2.2.1 e (h.2.2.2.2.2.2 1 m (by omega) e).1.1 (fin m (h.2.2.2.2.2.2 1 m (by omega) e))
end WX
