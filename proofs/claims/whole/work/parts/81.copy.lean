/-! a State copied -/
/-- State b as State a was -/
def s_eq (a b : Nat) (M M' : q_M) : Prop := (∀ i, i < 36 → M'.1 (b + 1) i = M.1 (a + 1) i) ∧ (∀ i, i < 576 → M'.1 (b + 2) i = M.1 (a + 2) i) ∧ (∀ i, i < 6 → M'.1 (b + 3) i = M.1 (a + 3) i ∧ M'.1 (b + 4) i = M.1 (a + 4) i ∧ M'.1 (b + 5) i = M.1 (a + 5) i ∧ M'.1 (b + 6) i = M.1 (a + 6) i ∧ M'.1 (b + 7) i = M.1 (a + 7) i) ∧ M'.1 b 7 = M.1 a 7 ∧ M'.1 b 8 = M.1 a 8 ∧ M'.1 b 9 = M.1 a 9
theorem cp_at {M : q_M} {a b n i : Nat} (h : i < n) : (q_cpi M a 0 b 0 n).1 b i = M.1 a i := by
  show (bif Nat.beq b b && (Nat.ble 0 i && Nat.blt i (0 + n)) then M.1 a (0 + (i - 0)) else M.1 b i) = _
  rw [Nat.beq_refl, Nat.ble_eq_true_of_le (Nat.zero_le i), show Nat.blt i (0 + n) = true from Nat.ble_eq_true_of_le (by omega)]
  show M.1 a (0 + (i - 0)) = _
  rw [Nat.zero_add, Nat.sub_zero]
theorem q_fs.cp {l : List Nat} {f : List (Nat × Nat)} {M M' : q_M} {a sp b dp n : Nat} (h0 : q_fs l f M M') (h : ∀ i, q_scr l f b i = true := by intro i; exact rfl) : q_fs l f M (q_cpi M' a sp b dp n) := h0.tr (fun r i hr => ⟨by
  show (bif Nat.beq r b && (Nat.ble dp i && Nat.blt i (dp + n)) then M'.1 a (sp + (i - dp)) else M'.1 r i) = _
  cases q : Nat.beq r b with
  | false => rfl
  | true =>
    rw [Nat.eq_of_beq_eq_true q, h i] at hr
    exact absurd hr (by decide), rfl⟩)
theorem g_S.cp {a b : Nat} {M M' : q_M} {t : q_T} {n : sN} (h : g_S a M t n) (e : s_eq a b M M') : g_S b M' t n := by
  obtain ⟨h1, h2, h3, h4, h5⟩ := h
  obtain ⟨e1, e2, e3, e7, e8, e9⟩ := e
  refine ⟨fun s hs => (e1 s hs).trans (h1 s hs), fun s hs => ?_, fun s hs => ?_, e7.trans h4, e9.trans h5⟩
  · obtain ⟨⟨x1, x2, x3, x4, x5⟩, x6⟩ := h2 s hs
    exact ⟨⟨(e2 _ (by omega)).trans x1, (e2 _ (by omega)).trans x2, (e2 _ (by omega)).trans x3, (e2 _ (by omega)).trans x4, (e2 _ (by omega)).trans x5⟩, fun j hj => (e2 _ (by omega)).trans (x6 j hj)⟩
  · obtain ⟨x1, x2, x3, x4⟩ := h3 s hs
    have y := e3 s hs
    exact ⟨y.1.trans x1, y.2.1.trans x2, y.2.2.2.1.trans x3, y.2.2.2.2.trans x4⟩
section CO
variable {L : Nat} {xs : Nat → Int32} {E : q_E} {d : Nat} {M : q_M} {t : q_T} {n : sN} {Q : Option Value → q_M → Prop} {P : q_M → Prop}
set_option maxRecDepth 100000 in
set_option maxHeartbeats 4000000 in
theorem k2_copy_43_52 (hQ : ∀ M', q_fs [52, 52 + 1, 52 + 2, 52 + 3, 52 + 4, 52 + 5, 52 + 6, 52 + 7] [] M M' → s_eq 43 52 M M' → Q none M') : q_C q_mt (L, xs, q_shp) E nX8_copyFrom (d + 1) 0 0 [.ref 52, .ref 43] M Q := by
  refine w_in 90 [] ?_
  refine ⟨⟨by decide, by decide, by decide, by decide, by decide⟩, ?_⟩
  refine ⟨⟨by decide, by decide, by decide, by decide, by decide⟩, ?_⟩
  refine ⟨⟨by decide, by decide, by decide, by decide, by decide⟩, ?_⟩
  refine ⟨⟨by decide, by decide, by decide, by decide, by decide⟩, ?_⟩
  refine ⟨⟨by decide, by decide, by decide, by decide, by decide⟩, ?_⟩
  refine ⟨⟨by decide, by decide, by decide, by decide, by decide⟩, ?_⟩
  refine ⟨⟨by decide, by decide, by decide, by decide, by decide⟩, ?_⟩
  refine ⟨_, rfl, ?_⟩
  refine ⟨_, rfl, ?_⟩
  refine ⟨_, rfl, ?_⟩
  refine ⟨_, rfl, ?_⟩
  refine ⟨_, rfl, ?_⟩
  refine ⟨_, rfl, ?_⟩
  refine hQ _ q_fs.rf.cp.cp.cp.cp.cp.cp.cp.s1.s1.s1 ⟨fun i hi => cp_at (M := M) (a := 43 + 1) (b := 52 + 1) (n := 36) hi, fun i hi => cp_at (M := M) (a := 43 + 2) (b := 52 + 2) (n := 576) hi, fun i hi => ⟨cp_at (M := M) (a := 43 + 3) (b := 52 + 3) (n := 6) hi, cp_at (M := M) (a := 43 + 4) (b := 52 + 4) (n := 6) hi, cp_at (M := M) (a := 43 + 5) (b := 52 + 5) (n := 6) hi, cp_at (M := M) (a := 43 + 6) (b := 52 + 6) (n := 6) hi, cp_at (M := M) (a := 43 + 7) (b := 52 + 7) (n := 6) hi⟩, rfl, rfl, rfl⟩
set_option maxRecDepth 100000 in
set_option maxHeartbeats 4000000 in
theorem k2_copy_52_43 (hQ : ∀ M', q_fs [43, 43 + 1, 43 + 2, 43 + 3, 43 + 4, 43 + 5, 43 + 6, 43 + 7] [] M M' → s_eq 52 43 M M' → Q none M') : q_C q_mt (L, xs, q_shp) E nX8_copyFrom (d + 1) 0 0 [.ref 43, .ref 52] M Q := by
  refine w_in 90 [] ?_
  refine ⟨⟨by decide, by decide, by decide, by decide, by decide⟩, ?_⟩
  refine ⟨⟨by decide, by decide, by decide, by decide, by decide⟩, ?_⟩
  refine ⟨⟨by decide, by decide, by decide, by decide, by decide⟩, ?_⟩
  refine ⟨⟨by decide, by decide, by decide, by decide, by decide⟩, ?_⟩
  refine ⟨⟨by decide, by decide, by decide, by decide, by decide⟩, ?_⟩
  refine ⟨⟨by decide, by decide, by decide, by decide, by decide⟩, ?_⟩
  refine ⟨⟨by decide, by decide, by decide, by decide, by decide⟩, ?_⟩
  refine ⟨_, rfl, ?_⟩
  refine ⟨_, rfl, ?_⟩
  refine ⟨_, rfl, ?_⟩
  refine ⟨_, rfl, ?_⟩
  refine ⟨_, rfl, ?_⟩
  refine ⟨_, rfl, ?_⟩
  refine hQ _ q_fs.rf.cp.cp.cp.cp.cp.cp.cp.s1.s1.s1 ⟨fun i hi => cp_at (M := M) (a := 52 + 1) (b := 43 + 1) (n := 36) hi, fun i hi => cp_at (M := M) (a := 52 + 2) (b := 43 + 2) (n := 576) hi, fun i hi => ⟨cp_at (M := M) (a := 52 + 3) (b := 43 + 3) (n := 6) hi, cp_at (M := M) (a := 52 + 4) (b := 43 + 4) (n := 6) hi, cp_at (M := M) (a := 52 + 5) (b := 43 + 5) (n := 6) hi, cp_at (M := M) (a := 52 + 6) (b := 43 + 6) (n := 6) hi, cp_at (M := M) (a := 52 + 7) (b := 43 + 7) (n := 6) hi⟩, rfl, rfl, rfl⟩
end CO
