/-! a State copied -/
/-- State b as State a was -/
def s_eq (a b : Nat) (M M' : q_M) : Prop := (∀ i, i < 36 → M'.1 (b + 1) i = M.1 (a + 1) i) ∧ (∀ i, i < 576 → M'.1 (b + 2) i = M.1 (a + 2) i) ∧ (∀ i, i < 6 → M'.1 (b + 3) i = M.1 (a + 3) i ∧ M'.1 (b + 4) i = M.1 (a + 4) i ∧ M'.1 (b + 5) i = M.1 (a + 5) i ∧ M'.1 (b + 6) i = M.1 (a + 6) i ∧ M'.1 (b + 7) i = M.1 (a + 7) i) ∧ M'.1 b 7 = M.1 a 7 ∧ M'.1 b 8 = M.1 a 8 ∧ M'.1 b 9 = M.1 a 9
theorem cp_at {M : q_M} {a b n i : Nat} (h : i < n) : (q_cpi M a 0 b 0 n).1 b i = M.1 a i := by
  show (bif Nat.beq b b && (Nat.ble 0 i && Nat.blt i (0 + n)) then M.1 a (0 + (i - 0)) else M.1 b i) = _
  rw [Nat.beq_refl, Nat.ble_eq_true_of_le (Nat.zero_le i), show Nat.blt i (0 + n) = true from Nat.ble_eq_true_of_le (by omega)]
  show M.1 a (0 + (i - 0)) = _
  rw [Nat.zero_add, Nat.sub_zero]
theorem q_fs.cp {l : List Nat} {f : List (Nat × Nat)} {M M' : q_M} {a sp b dp n : Nat} (h0 : q_fs l f M M') (h : ∀ i, q_scr l f b i = true := by intro i; exact rfl) : q_fs l f M (q_cpi M' a sp b dp n) := h0.tr (fun r i hr => ⟨by
  show (bif Nat.beq r b && (Nat.ble dp i && Nat.blt i (dp + n)) then M'.1 a (sp + (i - dp)) else M'.1 r i) = _
  cases q : Nat.beq r b with
  | false => rfl
  | true =>
    rw [Nat.eq_of_beq_eq_true q, h i] at hr
    exact absurd hr (by decide), rfl⟩)
theorem g_S.cp {a b : Nat} {M M' : q_M} {t : q_T} {n : sN} (h : g_S a M t n) (e : s_eq a b M M') : g_S b M' t n := by
  obtain ⟨h1, h2, h3, h4, h5, h6⟩ := h
  obtain ⟨e1, e2, e3, e7, e8, e9⟩ := e
  refine ⟨fun s hs => (e1 s hs).trans (h1 s hs), fun s hs => ?_, fun s hs => ?_, e7.trans h4, e9.trans h5, fun hb => ?_⟩
  · obtain ⟨⟨x1, x2, x3, x4, x5⟩, x6⟩ := h2 s hs
    exact ⟨⟨(e2 _ (by omega)).trans x1, (e2 _ (by omega)).trans x2, (e2 _ (by omega)).trans x3, (e2 _ (by omega)).trans x4, (e2 _ (by omega)).trans x5⟩, fun j hj => (e2 _ (by omega)).trans (x6 j hj)⟩
  · obtain ⟨x1, x2, x3, x4⟩ := h3 s hs
    have y := e3 s hs
    exact ⟨y.1.trans x1, y.2.1.trans x2, y.2.2.2.1.trans x3, y.2.2.2.2.trans x4⟩
  · obtain ⟨T, qu, x1, x2, x3, x4, x5⟩ := h6 hb
    exact ⟨T, qu, x1, e8.trans x2, fun i hi hi' => ⟨(e3 i hi).2.2.1.trans (x3 i hi hi').1, (x3 i hi hi').2⟩, x4, x5⟩
section CO
variable {L : Nat} {xs : Nat → Int32} {E : q_E} {d : Nat} {M : q_M} {t : q_T} {n : sN} {Q : Option Value → q_M → Prop} {P : q_M → Prop}
set_option maxRecDepth 100000 in
set_option maxHeartbeats 4000000 in
theorem k2_copy_43_70 (hQ : ∀ M', q_fs [70, 70 + 1, 70 + 2, 70 + 3, 70 + 4, 70 + 5, 70 + 6, 70 + 7] [] M M' → s_eq 43 70 M M' → Q none M') : q_C q_mt (L, xs, q_shp) E nX8_copyFrom (d + 1) 0 0 [.ref 70, .ref 43] M Q := by
  refine w_in 90 [] ?_
  refine ⟨⟨by decide, by decide, by decide, by decide, by decide⟩, ?_⟩
  refine ⟨⟨by decide, by decide, by decide, by decide, by decide⟩, ?_⟩
  refine ⟨⟨by decide, by decide, by decide, by decide, by decide⟩, ?_⟩
  refine ⟨⟨by decide, by decide, by decide, by decide, by decide⟩, ?_⟩
  refine ⟨⟨by decide, by decide, by decide, by decide, by decide⟩, ?_⟩
  refine ⟨⟨by decide, by decide, by decide, by decide, by decide⟩, ?_⟩
  refine ⟨⟨by decide, by decide, by decide, by decide, by decide⟩, ?_⟩
  refine ⟨_, rfl, ?_⟩
  refine ⟨_, rfl, ?_⟩
  refine ⟨_, rfl, ?_⟩
  refine ⟨_, rfl, ?_⟩
  refine ⟨_, rfl, ?_⟩
  refine ⟨_, rfl, ?_⟩
  refine hQ _ q_fs.rf.cp.cp.cp.cp.cp.cp.cp.s1.s1.s1 ⟨fun i hi => cp_at (M := M) (a := 43 + 1) (b := 70 + 1) (n := 36) hi, fun i hi => cp_at (M := M) (a := 43 + 2) (b := 70 + 2) (n := 576) hi, fun i hi => ⟨cp_at (M := M) (a := 43 + 3) (b := 70 + 3) (n := 6) hi, cp_at (M := M) (a := 43 + 4) (b := 70 + 4) (n := 6) hi, cp_at (M := M) (a := 43 + 5) (b := 70 + 5) (n := 6) hi, cp_at (M := M) (a := 43 + 6) (b := 70 + 6) (n := 6) hi, cp_at (M := M) (a := 43 + 7) (b := 70 + 7) (n := 6) hi⟩, rfl, rfl, rfl⟩
set_option maxRecDepth 100000 in
set_option maxHeartbeats 4000000 in
theorem k2_copy_43_78 (hQ : ∀ M', q_fs [78, 78 + 1, 78 + 2, 78 + 3, 78 + 4, 78 + 5, 78 + 6, 78 + 7] [] M M' → s_eq 43 78 M M' → Q none M') : q_C q_mt (L, xs, q_shp) E nX8_copyFrom (d + 1) 0 0 [.ref 78, .ref 43] M Q := by
  refine w_in 90 [] ?_
  refine ⟨⟨by decide, by decide, by decide, by decide, by decide⟩, ?_⟩
  refine ⟨⟨by decide, by decide, by decide, by decide, by decide⟩, ?_⟩
  refine ⟨⟨by decide, by decide, by decide, by decide, by decide⟩, ?_⟩
  refine ⟨⟨by decide, by decide, by decide, by decide, by decide⟩, ?_⟩
  refine ⟨⟨by decide, by decide, by decide, by decide, by decide⟩, ?_⟩
  refine ⟨⟨by decide, by decide, by decide, by decide, by decide⟩, ?_⟩
  refine ⟨⟨by decide, by decide, by decide, by decide, by decide⟩, ?_⟩
  refine ⟨_, rfl, ?_⟩
  refine ⟨_, rfl, ?_⟩
  refine ⟨_, rfl, ?_⟩
  refine ⟨_, rfl, ?_⟩
  refine ⟨_, rfl, ?_⟩
  refine ⟨_, rfl, ?_⟩
  refine hQ _ q_fs.rf.cp.cp.cp.cp.cp.cp.cp.s1.s1.s1 ⟨fun i hi => cp_at (M := M) (a := 43 + 1) (b := 78 + 1) (n := 36) hi, fun i hi => cp_at (M := M) (a := 43 + 2) (b := 78 + 2) (n := 576) hi, fun i hi => ⟨cp_at (M := M) (a := 43 + 3) (b := 78 + 3) (n := 6) hi, cp_at (M := M) (a := 43 + 4) (b := 78 + 4) (n := 6) hi, cp_at (M := M) (a := 43 + 5) (b := 78 + 5) (n := 6) hi, cp_at (M := M) (a := 43 + 6) (b := 78 + 6) (n := 6) hi, cp_at (M := M) (a := 43 + 7) (b := 78 + 7) (n := 6) hi⟩, rfl, rfl, rfl⟩
set_option maxRecDepth 100000 in
set_option maxHeartbeats 4000000 in
theorem k2_copy_43_86 (hQ : ∀ M', q_fs [86, 86 + 1, 86 + 2, 86 + 3, 86 + 4, 86 + 5, 86 + 6, 86 + 7] [] M M' → s_eq 43 86 M M' → Q none M') : q_C q_mt (L, xs, q_shp) E nX8_copyFrom (d + 1) 0 0 [.ref 86, .ref 43] M Q := by
  refine w_in 90 [] ?_
  refine ⟨⟨by decide, by decide, by decide, by decide, by decide⟩, ?_⟩
  refine ⟨⟨by decide, by decide, by decide, by decide, by decide⟩, ?_⟩
  refine ⟨⟨by decide, by decide, by decide, by decide, by decide⟩, ?_⟩
  refine ⟨⟨by decide, by decide, by decide, by decide, by decide⟩, ?_⟩
  refine ⟨⟨by decide, by decide, by decide, by decide, by decide⟩, ?_⟩
  refine ⟨⟨by decide, by decide, by decide, by decide, by decide⟩, ?_⟩
  refine ⟨⟨by decide, by decide, by decide, by decide, by decide⟩, ?_⟩
  refine ⟨_, rfl, ?_⟩
  refine ⟨_, rfl, ?_⟩
  refine ⟨_, rfl, ?_⟩
  refine ⟨_, rfl, ?_⟩
  refine ⟨_, rfl, ?_⟩
  refine ⟨_, rfl, ?_⟩
  refine hQ _ q_fs.rf.cp.cp.cp.cp.cp.cp.cp.s1.s1.s1 ⟨fun i hi => cp_at (M := M) (a := 43 + 1) (b := 86 + 1) (n := 36) hi, fun i hi => cp_at (M := M) (a := 43 + 2) (b := 86 + 2) (n := 576) hi, fun i hi => ⟨cp_at (M := M) (a := 43 + 3) (b := 86 + 3) (n := 6) hi, cp_at (M := M) (a := 43 + 4) (b := 86 + 4) (n := 6) hi, cp_at (M := M) (a := 43 + 5) (b := 86 + 5) (n := 6) hi, cp_at (M := M) (a := 43 + 6) (b := 86 + 6) (n := 6) hi, cp_at (M := M) (a := 43 + 7) (b := 86 + 7) (n := 6) hi⟩, rfl, rfl, rfl⟩
set_option maxRecDepth 100000 in
set_option maxHeartbeats 4000000 in
theorem k2_copy_43_94 (hQ : ∀ M', q_fs [94, 94 + 1, 94 + 2, 94 + 3, 94 + 4, 94 + 5, 94 + 6, 94 + 7] [] M M' → s_eq 43 94 M M' → Q none M') : q_C q_mt (L, xs, q_shp) E nX8_copyFrom (d + 1) 0 0 [.ref 94, .ref 43] M Q := by
  refine w_in 90 [] ?_
  refine ⟨⟨by decide, by decide, by decide, by decide, by decide⟩, ?_⟩
  refine ⟨⟨by decide, by decide, by decide, by decide, by decide⟩, ?_⟩
  refine ⟨⟨by decide, by decide, by decide, by decide, by decide⟩, ?_⟩
  refine ⟨⟨by decide, by decide, by decide, by decide, by decide⟩, ?_⟩
  refine ⟨⟨by decide, by decide, by decide, by decide, by decide⟩, ?_⟩
  refine ⟨⟨by decide, by decide, by decide, by decide, by decide⟩, ?_⟩
  refine ⟨⟨by decide, by decide, by decide, by decide, by decide⟩, ?_⟩
  refine ⟨_, rfl, ?_⟩
  refine ⟨_, rfl, ?_⟩
  refine ⟨_, rfl, ?_⟩
  refine ⟨_, rfl, ?_⟩
  refine ⟨_, rfl, ?_⟩
  refine ⟨_, rfl, ?_⟩
  refine hQ _ q_fs.rf.cp.cp.cp.cp.cp.cp.cp.s1.s1.s1 ⟨fun i hi => cp_at (M := M) (a := 43 + 1) (b := 94 + 1) (n := 36) hi, fun i hi => cp_at (M := M) (a := 43 + 2) (b := 94 + 2) (n := 576) hi, fun i hi => ⟨cp_at (M := M) (a := 43 + 3) (b := 94 + 3) (n := 6) hi, cp_at (M := M) (a := 43 + 4) (b := 94 + 4) (n := 6) hi, cp_at (M := M) (a := 43 + 5) (b := 94 + 5) (n := 6) hi, cp_at (M := M) (a := 43 + 6) (b := 94 + 6) (n := 6) hi, cp_at (M := M) (a := 43 + 7) (b := 94 + 7) (n := 6) hi⟩, rfl, rfl, rfl⟩
set_option maxRecDepth 100000 in
set_option maxHeartbeats 4000000 in
theorem k2_copy_43_102 (hQ : ∀ M', q_fs [102, 102 + 1, 102 + 2, 102 + 3, 102 + 4, 102 + 5, 102 + 6, 102 + 7] [] M M' → s_eq 43 102 M M' → Q none M') : q_C q_mt (L, xs, q_shp) E nX8_copyFrom (d + 1) 0 0 [.ref 102, .ref 43] M Q := by
  refine w_in 90 [] ?_
  refine ⟨⟨by decide, by decide, by decide, by decide, by decide⟩, ?_⟩
  refine ⟨⟨by decide, by decide, by decide, by decide, by decide⟩, ?_⟩
  refine ⟨⟨by decide, by decide, by decide, by decide, by decide⟩, ?_⟩
  refine ⟨⟨by decide, by decide, by decide, by decide, by decide⟩, ?_⟩
  refine ⟨⟨by decide, by decide, by decide, by decide, by decide⟩, ?_⟩
  refine ⟨⟨by decide, by decide, by decide, by decide, by decide⟩, ?_⟩
  refine ⟨⟨by decide, by decide, by decide, by decide, by decide⟩, ?_⟩
  refine ⟨_, rfl, ?_⟩
  refine ⟨_, rfl, ?_⟩
  refine ⟨_, rfl, ?_⟩
  refine ⟨_, rfl, ?_⟩
  refine ⟨_, rfl, ?_⟩
  refine ⟨_, rfl, ?_⟩
  refine hQ _ q_fs.rf.cp.cp.cp.cp.cp.cp.cp.s1.s1.s1 ⟨fun i hi => cp_at (M := M) (a := 43 + 1) (b := 102 + 1) (n := 36) hi, fun i hi => cp_at (M := M) (a := 43 + 2) (b := 102 + 2) (n := 576) hi, fun i hi => ⟨cp_at (M := M) (a := 43 + 3) (b := 102 + 3) (n := 6) hi, cp_at (M := M) (a := 43 + 4) (b := 102 + 4) (n := 6) hi, cp_at (M := M) (a := 43 + 5) (b := 102 + 5) (n := 6) hi, cp_at (M := M) (a := 43 + 6) (b := 102 + 6) (n := 6) hi, cp_at (M := M) (a := 43 + 7) (b := 102 + 7) (n := 6) hi⟩, rfl, rfl, rfl⟩
set_option maxRecDepth 100000 in
set_option maxHeartbeats 4000000 in
theorem k2_copy_43_110 (hQ : ∀ M', q_fs [110, 110 + 1, 110 + 2, 110 + 3, 110 + 4, 110 + 5, 110 + 6, 110 + 7] [] M M' → s_eq 43 110 M M' → Q none M') : q_C q_mt (L, xs, q_shp) E nX8_copyFrom (d + 1) 0 0 [.ref 110, .ref 43] M Q := by
  refine w_in 90 [] ?_
  refine ⟨⟨by decide, by decide, by decide, by decide, by decide⟩, ?_⟩
  refine ⟨⟨by decide, by decide, by decide, by decide, by decide⟩, ?_⟩
  refine ⟨⟨by decide, by decide, by decide, by decide, by decide⟩, ?_⟩
  refine ⟨⟨by decide, by decide, by decide, by decide, by decide⟩, ?_⟩
  refine ⟨⟨by decide, by decide, by decide, by decide, by decide⟩, ?_⟩
  refine ⟨⟨by decide, by decide, by decide, by decide, by decide⟩, ?_⟩
  refine ⟨⟨by decide, by decide, by decide, by decide, by decide⟩, ?_⟩
  refine ⟨_, rfl, ?_⟩
  refine ⟨_, rfl, ?_⟩
  refine ⟨_, rfl, ?_⟩
  refine ⟨_, rfl, ?_⟩
  refine ⟨_, rfl, ?_⟩
  refine ⟨_, rfl, ?_⟩
  refine hQ _ q_fs.rf.cp.cp.cp.cp.cp.cp.cp.s1.s1.s1 ⟨fun i hi => cp_at (M := M) (a := 43 + 1) (b := 110 + 1) (n := 36) hi, fun i hi => cp_at (M := M) (a := 43 + 2) (b := 110 + 2) (n := 576) hi, fun i hi => ⟨cp_at (M := M) (a := 43 + 3) (b := 110 + 3) (n := 6) hi, cp_at (M := M) (a := 43 + 4) (b := 110 + 4) (n := 6) hi, cp_at (M := M) (a := 43 + 5) (b := 110 + 5) (n := 6) hi, cp_at (M := M) (a := 43 + 6) (b := 110 + 6) (n := 6) hi, cp_at (M := M) (a := 43 + 7) (b := 110 + 7) (n := 6) hi⟩, rfl, rfl, rfl⟩
set_option maxRecDepth 100000 in
set_option maxHeartbeats 4000000 in
theorem k2_copy_43_118 (hQ : ∀ M', q_fs [118, 118 + 1, 118 + 2, 118 + 3, 118 + 4, 118 + 5, 118 + 6, 118 + 7] [] M M' → s_eq 43 118 M M' → Q none M') : q_C q_mt (L, xs, q_shp) E nX8_copyFrom (d + 1) 0 0 [.ref 118, .ref 43] M Q := by
  refine w_in 90 [] ?_
  refine ⟨⟨by decide, by decide, by decide, by decide, by decide⟩, ?_⟩
  refine ⟨⟨by decide, by decide, by decide, by decide, by decide⟩, ?_⟩
  refine ⟨⟨by decide, by decide, by decide, by decide, by decide⟩, ?_⟩
  refine ⟨⟨by decide, by decide, by decide, by decide, by decide⟩, ?_⟩
  refine ⟨⟨by decide, by decide, by decide, by decide, by decide⟩, ?_⟩
  refine ⟨⟨by decide, by decide, by decide, by decide, by decide⟩, ?_⟩
  refine ⟨⟨by decide, by decide, by decide, by decide, by decide⟩, ?_⟩
  refine ⟨_, rfl, ?_⟩
  refine ⟨_, rfl, ?_⟩
  refine ⟨_, rfl, ?_⟩
  refine ⟨_, rfl, ?_⟩
  refine ⟨_, rfl, ?_⟩
  refine ⟨_, rfl, ?_⟩
  refine hQ _ q_fs.rf.cp.cp.cp.cp.cp.cp.cp.s1.s1.s1 ⟨fun i hi => cp_at (M := M) (a := 43 + 1) (b := 118 + 1) (n := 36) hi, fun i hi => cp_at (M := M) (a := 43 + 2) (b := 118 + 2) (n := 576) hi, fun i hi => ⟨cp_at (M := M) (a := 43 + 3) (b := 118 + 3) (n := 6) hi, cp_at (M := M) (a := 43 + 4) (b := 118 + 4) (n := 6) hi, cp_at (M := M) (a := 43 + 5) (b := 118 + 5) (n := 6) hi, cp_at (M := M) (a := 43 + 6) (b := 118 + 6) (n := 6) hi, cp_at (M := M) (a := 43 + 7) (b := 118 + 7) (n := 6) hi⟩, rfl, rfl, rfl⟩
set_option maxRecDepth 100000 in
set_option maxHeartbeats 4000000 in
theorem k2_copy_43_126 (hQ : ∀ M', q_fs [126, 126 + 1, 126 + 2, 126 + 3, 126 + 4, 126 + 5, 126 + 6, 126 + 7] [] M M' → s_eq 43 126 M M' → Q none M') : q_C q_mt (L, xs, q_shp) E nX8_copyFrom (d + 1) 0 0 [.ref 126, .ref 43] M Q := by
  refine w_in 90 [] ?_
  refine ⟨⟨by decide, by decide, by decide, by decide, by decide⟩, ?_⟩
  refine ⟨⟨by decide, by decide, by decide, by decide, by decide⟩, ?_⟩
  refine ⟨⟨by decide, by decide, by decide, by decide, by decide⟩, ?_⟩
  refine ⟨⟨by decide, by decide, by decide, by decide, by decide⟩, ?_⟩
  refine ⟨⟨by decide, by decide, by decide, by decide, by decide⟩, ?_⟩
  refine ⟨⟨by decide, by decide, by decide, by decide, by decide⟩, ?_⟩
  refine ⟨⟨by decide, by decide, by decide, by decide, by decide⟩, ?_⟩
  refine ⟨_, rfl, ?_⟩
  refine ⟨_, rfl, ?_⟩
  refine ⟨_, rfl, ?_⟩
  refine ⟨_, rfl, ?_⟩
  refine ⟨_, rfl, ?_⟩
  refine ⟨_, rfl, ?_⟩
  refine hQ _ q_fs.rf.cp.cp.cp.cp.cp.cp.cp.s1.s1.s1 ⟨fun i hi => cp_at (M := M) (a := 43 + 1) (b := 126 + 1) (n := 36) hi, fun i hi => cp_at (M := M) (a := 43 + 2) (b := 126 + 2) (n := 576) hi, fun i hi => ⟨cp_at (M := M) (a := 43 + 3) (b := 126 + 3) (n := 6) hi, cp_at (M := M) (a := 43 + 4) (b := 126 + 4) (n := 6) hi, cp_at (M := M) (a := 43 + 5) (b := 126 + 5) (n := 6) hi, cp_at (M := M) (a := 43 + 6) (b := 126 + 6) (n := 6) hi, cp_at (M := M) (a := 43 + 7) (b := 126 + 7) (n := 6) hi⟩, rfl, rfl, rfl⟩
set_option maxRecDepth 100000 in
set_option maxHeartbeats 4000000 in
theorem k2_copy_43_134 (hQ : ∀ M', q_fs [134, 134 + 1, 134 + 2, 134 + 3, 134 + 4, 134 + 5, 134 + 6, 134 + 7] [] M M' → s_eq 43 134 M M' → Q none M') : q_C q_mt (L, xs, q_shp) E nX8_copyFrom (d + 1) 0 0 [.ref 134, .ref 43] M Q := by
  refine w_in 90 [] ?_
  refine ⟨⟨by decide, by decide, by decide, by decide, by decide⟩, ?_⟩
  refine ⟨⟨by decide, by decide, by decide, by decide, by decide⟩, ?_⟩
  refine ⟨⟨by decide, by decide, by decide, by decide, by decide⟩, ?_⟩
  refine ⟨⟨by decide, by decide, by decide, by decide, by decide⟩, ?_⟩
  refine ⟨⟨by decide, by decide, by decide, by decide, by decide⟩, ?_⟩
  refine ⟨⟨by decide, by decide, by decide, by decide, by decide⟩, ?_⟩
  refine ⟨⟨by decide, by decide, by decide, by decide, by decide⟩, ?_⟩
  refine ⟨_, rfl, ?_⟩
  refine ⟨_, rfl, ?_⟩
  refine ⟨_, rfl, ?_⟩
  refine ⟨_, rfl, ?_⟩
  refine ⟨_, rfl, ?_⟩
  refine ⟨_, rfl, ?_⟩
  refine hQ _ q_fs.rf.cp.cp.cp.cp.cp.cp.cp.s1.s1.s1 ⟨fun i hi => cp_at (M := M) (a := 43 + 1) (b := 134 + 1) (n := 36) hi, fun i hi => cp_at (M := M) (a := 43 + 2) (b := 134 + 2) (n := 576) hi, fun i hi => ⟨cp_at (M := M) (a := 43 + 3) (b := 134 + 3) (n := 6) hi, cp_at (M := M) (a := 43 + 4) (b := 134 + 4) (n := 6) hi, cp_at (M := M) (a := 43 + 5) (b := 134 + 5) (n := 6) hi, cp_at (M := M) (a := 43 + 6) (b := 134 + 6) (n := 6) hi, cp_at (M := M) (a := 43 + 7) (b := 134 + 7) (n := 6) hi⟩, rfl, rfl, rfl⟩
set_option maxRecDepth 100000 in
set_option maxHeartbeats 4000000 in
theorem k2_copy_43_142 (hQ : ∀ M', q_fs [142, 142 + 1, 142 + 2, 142 + 3, 142 + 4, 142 + 5, 142 + 6, 142 + 7] [] M M' → s_eq 43 142 M M' → Q none M') : q_C q_mt (L, xs, q_shp) E nX8_copyFrom (d + 1) 0 0 [.ref 142, .ref 43] M Q := by
  refine w_in 90 [] ?_
  refine ⟨⟨by decide, by decide, by decide, by decide, by decide⟩, ?_⟩
  refine ⟨⟨by decide, by decide, by decide, by decide, by decide⟩, ?_⟩
  refine ⟨⟨by decide, by decide, by decide, by decide, by decide⟩, ?_⟩
  refine ⟨⟨by decide, by decide, by decide, by decide, by decide⟩, ?_⟩
  refine ⟨⟨by decide, by decide, by decide, by decide, by decide⟩, ?_⟩
  refine ⟨⟨by decide, by decide, by decide, by decide, by decide⟩, ?_⟩
  refine ⟨⟨by decide, by decide, by decide, by decide, by decide⟩, ?_⟩
  refine ⟨_, rfl, ?_⟩
  refine ⟨_, rfl, ?_⟩
  refine ⟨_, rfl, ?_⟩
  refine ⟨_, rfl, ?_⟩
  refine ⟨_, rfl, ?_⟩
  refine ⟨_, rfl, ?_⟩
  refine hQ _ q_fs.rf.cp.cp.cp.cp.cp.cp.cp.s1.s1.s1 ⟨fun i hi => cp_at (M := M) (a := 43 + 1) (b := 142 + 1) (n := 36) hi, fun i hi => cp_at (M := M) (a := 43 + 2) (b := 142 + 2) (n := 576) hi, fun i hi => ⟨cp_at (M := M) (a := 43 + 3) (b := 142 + 3) (n := 6) hi, cp_at (M := M) (a := 43 + 4) (b := 142 + 4) (n := 6) hi, cp_at (M := M) (a := 43 + 5) (b := 142 + 5) (n := 6) hi, cp_at (M := M) (a := 43 + 6) (b := 142 + 6) (n := 6) hi, cp_at (M := M) (a := 43 + 7) (b := 142 + 7) (n := 6) hi⟩, rfl, rfl, rfl⟩
set_option maxRecDepth 100000 in
set_option maxHeartbeats 4000000 in
theorem k2_copy_43_150 (hQ : ∀ M', q_fs [150, 150 + 1, 150 + 2, 150 + 3, 150 + 4, 150 + 5, 150 + 6, 150 + 7] [] M M' → s_eq 43 150 M M' → Q none M') : q_C q_mt (L, xs, q_shp) E nX8_copyFrom (d + 1) 0 0 [.ref 150, .ref 43] M Q := by
  refine w_in 90 [] ?_
  refine ⟨⟨by decide, by decide, by decide, by decide, by decide⟩, ?_⟩
  refine ⟨⟨by decide, by decide, by decide, by decide, by decide⟩, ?_⟩
  refine ⟨⟨by decide, by decide, by decide, by decide, by decide⟩, ?_⟩
  refine ⟨⟨by decide, by decide, by decide, by decide, by decide⟩, ?_⟩
  refine ⟨⟨by decide, by decide, by decide, by decide, by decide⟩, ?_⟩
  refine ⟨⟨by decide, by decide, by decide, by decide, by decide⟩, ?_⟩
  refine ⟨⟨by decide, by decide, by decide, by decide, by decide⟩, ?_⟩
  refine ⟨_, rfl, ?_⟩
  refine ⟨_, rfl, ?_⟩
  refine ⟨_, rfl, ?_⟩
  refine ⟨_, rfl, ?_⟩
  refine ⟨_, rfl, ?_⟩
  refine ⟨_, rfl, ?_⟩
  refine hQ _ q_fs.rf.cp.cp.cp.cp.cp.cp.cp.s1.s1.s1 ⟨fun i hi => cp_at (M := M) (a := 43 + 1) (b := 150 + 1) (n := 36) hi, fun i hi => cp_at (M := M) (a := 43 + 2) (b := 150 + 2) (n := 576) hi, fun i hi => ⟨cp_at (M := M) (a := 43 + 3) (b := 150 + 3) (n := 6) hi, cp_at (M := M) (a := 43 + 4) (b := 150 + 4) (n := 6) hi, cp_at (M := M) (a := 43 + 5) (b := 150 + 5) (n := 6) hi, cp_at (M := M) (a := 43 + 6) (b := 150 + 6) (n := 6) hi, cp_at (M := M) (a := 43 + 7) (b := 150 + 7) (n := 6) hi⟩, rfl, rfl, rfl⟩
set_option maxRecDepth 100000 in
set_option maxHeartbeats 4000000 in
theorem k2_copy_43_158 (hQ : ∀ M', q_fs [158, 158 + 1, 158 + 2, 158 + 3, 158 + 4, 158 + 5, 158 + 6, 158 + 7] [] M M' → s_eq 43 158 M M' → Q none M') : q_C q_mt (L, xs, q_shp) E nX8_copyFrom (d + 1) 0 0 [.ref 158, .ref 43] M Q := by
  refine w_in 90 [] ?_
  refine ⟨⟨by decide, by decide, by decide, by decide, by decide⟩, ?_⟩
  refine ⟨⟨by decide, by decide, by decide, by decide, by decide⟩, ?_⟩
  refine ⟨⟨by decide, by decide, by decide, by decide, by decide⟩, ?_⟩
  refine ⟨⟨by decide, by decide, by decide, by decide, by decide⟩, ?_⟩
  refine ⟨⟨by decide, by decide, by decide, by decide, by decide⟩, ?_⟩
  refine ⟨⟨by decide, by decide, by decide, by decide, by decide⟩, ?_⟩
  refine ⟨⟨by decide, by decide, by decide, by decide, by decide⟩, ?_⟩
  refine ⟨_, rfl, ?_⟩
  refine ⟨_, rfl, ?_⟩
  refine ⟨_, rfl, ?_⟩
  refine ⟨_, rfl, ?_⟩
  refine ⟨_, rfl, ?_⟩
  refine ⟨_, rfl, ?_⟩
  refine hQ _ q_fs.rf.cp.cp.cp.cp.cp.cp.cp.s1.s1.s1 ⟨fun i hi => cp_at (M := M) (a := 43 + 1) (b := 158 + 1) (n := 36) hi, fun i hi => cp_at (M := M) (a := 43 + 2) (b := 158 + 2) (n := 576) hi, fun i hi => ⟨cp_at (M := M) (a := 43 + 3) (b := 158 + 3) (n := 6) hi, cp_at (M := M) (a := 43 + 4) (b := 158 + 4) (n := 6) hi, cp_at (M := M) (a := 43 + 5) (b := 158 + 5) (n := 6) hi, cp_at (M := M) (a := 43 + 6) (b := 158 + 6) (n := 6) hi, cp_at (M := M) (a := 43 + 7) (b := 158 + 7) (n := 6) hi⟩, rfl, rfl, rfl⟩
set_option maxRecDepth 100000 in
set_option maxHeartbeats 4000000 in
theorem k2_copy_43_166 (hQ : ∀ M', q_fs [166, 166 + 1, 166 + 2, 166 + 3, 166 + 4, 166 + 5, 166 + 6, 166 + 7] [] M M' → s_eq 43 166 M M' → Q none M') : q_C q_mt (L, xs, q_shp) E nX8_copyFrom (d + 1) 0 0 [.ref 166, .ref 43] M Q := by
  refine w_in 90 [] ?_
  refine ⟨⟨by decide, by decide, by decide, by decide, by decide⟩, ?_⟩
  refine ⟨⟨by decide, by decide, by decide, by decide, by decide⟩, ?_⟩
  refine ⟨⟨by decide, by decide, by decide, by decide, by decide⟩, ?_⟩
  refine ⟨⟨by decide, by decide, by decide, by decide, by decide⟩, ?_⟩
  refine ⟨⟨by decide, by decide, by decide, by decide, by decide⟩, ?_⟩
  refine ⟨⟨by decide, by decide, by decide, by decide, by decide⟩, ?_⟩
  refine ⟨⟨by decide, by decide, by decide, by decide, by decide⟩, ?_⟩
  refine ⟨_, rfl, ?_⟩
  refine ⟨_, rfl, ?_⟩
  refine ⟨_, rfl, ?_⟩
  refine ⟨_, rfl, ?_⟩
  refine ⟨_, rfl, ?_⟩
  refine ⟨_, rfl, ?_⟩
  refine hQ _ q_fs.rf.cp.cp.cp.cp.cp.cp.cp.s1.s1.s1 ⟨fun i hi => cp_at (M := M) (a := 43 + 1) (b := 166 + 1) (n := 36) hi, fun i hi => cp_at (M := M) (a := 43 + 2) (b := 166 + 2) (n := 576) hi, fun i hi => ⟨cp_at (M := M) (a := 43 + 3) (b := 166 + 3) (n := 6) hi, cp_at (M := M) (a := 43 + 4) (b := 166 + 4) (n := 6) hi, cp_at (M := M) (a := 43 + 5) (b := 166 + 5) (n := 6) hi, cp_at (M := M) (a := 43 + 6) (b := 166 + 6) (n := 6) hi, cp_at (M := M) (a := 43 + 7) (b := 166 + 7) (n := 6) hi⟩, rfl, rfl, rfl⟩
set_option maxRecDepth 100000 in
set_option maxHeartbeats 4000000 in
theorem k2_copy_43_174 (hQ : ∀ M', q_fs [174, 174 + 1, 174 + 2, 174 + 3, 174 + 4, 174 + 5, 174 + 6, 174 + 7] [] M M' → s_eq 43 174 M M' → Q none M') : q_C q_mt (L, xs, q_shp) E nX8_copyFrom (d + 1) 0 0 [.ref 174, .ref 43] M Q := by
  refine w_in 90 [] ?_
  refine ⟨⟨by decide, by decide, by decide, by decide, by decide⟩, ?_⟩
  refine ⟨⟨by decide, by decide, by decide, by decide, by decide⟩, ?_⟩
  refine ⟨⟨by decide, by decide, by decide, by decide, by decide⟩, ?_⟩
  refine ⟨⟨by decide, by decide, by decide, by decide, by decide⟩, ?_⟩
  refine ⟨⟨by decide, by decide, by decide, by decide, by decide⟩, ?_⟩
  refine ⟨⟨by decide, by decide, by decide, by decide, by decide⟩, ?_⟩
  refine ⟨⟨by decide, by decide, by decide, by decide, by decide⟩, ?_⟩
  refine ⟨_, rfl, ?_⟩
  refine ⟨_, rfl, ?_⟩
  refine ⟨_, rfl, ?_⟩
  refine ⟨_, rfl, ?_⟩
  refine ⟨_, rfl, ?_⟩
  refine ⟨_, rfl, ?_⟩
  refine hQ _ q_fs.rf.cp.cp.cp.cp.cp.cp.cp.s1.s1.s1 ⟨fun i hi => cp_at (M := M) (a := 43 + 1) (b := 174 + 1) (n := 36) hi, fun i hi => cp_at (M := M) (a := 43 + 2) (b := 174 + 2) (n := 576) hi, fun i hi => ⟨cp_at (M := M) (a := 43 + 3) (b := 174 + 3) (n := 6) hi, cp_at (M := M) (a := 43 + 4) (b := 174 + 4) (n := 6) hi, cp_at (M := M) (a := 43 + 5) (b := 174 + 5) (n := 6) hi, cp_at (M := M) (a := 43 + 6) (b := 174 + 6) (n := 6) hi, cp_at (M := M) (a := 43 + 7) (b := 174 + 7) (n := 6) hi⟩, rfl, rfl, rfl⟩
set_option maxRecDepth 100000 in
set_option maxHeartbeats 4000000 in
theorem k2_copy_43_182 (hQ : ∀ M', q_fs [182, 182 + 1, 182 + 2, 182 + 3, 182 + 4, 182 + 5, 182 + 6, 182 + 7] [] M M' → s_eq 43 182 M M' → Q none M') : q_C q_mt (L, xs, q_shp) E nX8_copyFrom (d + 1) 0 0 [.ref 182, .ref 43] M Q := by
  refine w_in 90 [] ?_
  refine ⟨⟨by decide, by decide, by decide, by decide, by decide⟩, ?_⟩
  refine ⟨⟨by decide, by decide, by decide, by decide, by decide⟩, ?_⟩
  refine ⟨⟨by decide, by decide, by decide, by decide, by decide⟩, ?_⟩
  refine ⟨⟨by decide, by decide, by decide, by decide, by decide⟩, ?_⟩
  refine ⟨⟨by decide, by decide, by decide, by decide, by decide⟩, ?_⟩
  refine ⟨⟨by decide, by decide, by decide, by decide, by decide⟩, ?_⟩
  refine ⟨⟨by decide, by decide, by decide, by decide, by decide⟩, ?_⟩
  refine ⟨_, rfl, ?_⟩
  refine ⟨_, rfl, ?_⟩
  refine ⟨_, rfl, ?_⟩
  refine ⟨_, rfl, ?_⟩
  refine ⟨_, rfl, ?_⟩
  refine ⟨_, rfl, ?_⟩
  refine hQ _ q_fs.rf.cp.cp.cp.cp.cp.cp.cp.s1.s1.s1 ⟨fun i hi => cp_at (M := M) (a := 43 + 1) (b := 182 + 1) (n := 36) hi, fun i hi => cp_at (M := M) (a := 43 + 2) (b := 182 + 2) (n := 576) hi, fun i hi => ⟨cp_at (M := M) (a := 43 + 3) (b := 182 + 3) (n := 6) hi, cp_at (M := M) (a := 43 + 4) (b := 182 + 4) (n := 6) hi, cp_at (M := M) (a := 43 + 5) (b := 182 + 5) (n := 6) hi, cp_at (M := M) (a := 43 + 6) (b := 182 + 6) (n := 6) hi, cp_at (M := M) (a := 43 + 7) (b := 182 + 7) (n := 6) hi⟩, rfl, rfl, rfl⟩
set_option maxRecDepth 100000 in
set_option maxHeartbeats 4000000 in
theorem k2_copy_43_190 (hQ : ∀ M', q_fs [190, 190 + 1, 190 + 2, 190 + 3, 190 + 4, 190 + 5, 190 + 6, 190 + 7] [] M M' → s_eq 43 190 M M' → Q none M') : q_C q_mt (L, xs, q_shp) E nX8_copyFrom (d + 1) 0 0 [.ref 190, .ref 43] M Q := by
  refine w_in 90 [] ?_
  refine ⟨⟨by decide, by decide, by decide, by decide, by decide⟩, ?_⟩
  refine ⟨⟨by decide, by decide, by decide, by decide, by decide⟩, ?_⟩
  refine ⟨⟨by decide, by decide, by decide, by decide, by decide⟩, ?_⟩
  refine ⟨⟨by decide, by decide, by decide, by decide, by decide⟩, ?_⟩
  refine ⟨⟨by decide, by decide, by decide, by decide, by decide⟩, ?_⟩
  refine ⟨⟨by decide, by decide, by decide, by decide, by decide⟩, ?_⟩
  refine ⟨⟨by decide, by decide, by decide, by decide, by decide⟩, ?_⟩
  refine ⟨_, rfl, ?_⟩
  refine ⟨_, rfl, ?_⟩
  refine ⟨_, rfl, ?_⟩
  refine ⟨_, rfl, ?_⟩
  refine ⟨_, rfl, ?_⟩
  refine ⟨_, rfl, ?_⟩
  refine hQ _ q_fs.rf.cp.cp.cp.cp.cp.cp.cp.s1.s1.s1 ⟨fun i hi => cp_at (M := M) (a := 43 + 1) (b := 190 + 1) (n := 36) hi, fun i hi => cp_at (M := M) (a := 43 + 2) (b := 190 + 2) (n := 576) hi, fun i hi => ⟨cp_at (M := M) (a := 43 + 3) (b := 190 + 3) (n := 6) hi, cp_at (M := M) (a := 43 + 4) (b := 190 + 4) (n := 6) hi, cp_at (M := M) (a := 43 + 5) (b := 190 + 5) (n := 6) hi, cp_at (M := M) (a := 43 + 6) (b := 190 + 6) (n := 6) hi, cp_at (M := M) (a := 43 + 7) (b := 190 + 7) (n := 6) hi⟩, rfl, rfl, rfl⟩
set_option maxRecDepth 100000 in
set_option maxHeartbeats 4000000 in
theorem k2_copy_43_198 (hQ : ∀ M', q_fs [198, 198 + 1, 198 + 2, 198 + 3, 198 + 4, 198 + 5, 198 + 6, 198 + 7] [] M M' → s_eq 43 198 M M' → Q none M') : q_C q_mt (L, xs, q_shp) E nX8_copyFrom (d + 1) 0 0 [.ref 198, .ref 43] M Q := by
  refine w_in 90 [] ?_
  refine ⟨⟨by decide, by decide, by decide, by decide, by decide⟩, ?_⟩
  refine ⟨⟨by decide, by decide, by decide, by decide, by decide⟩, ?_⟩
  refine ⟨⟨by decide, by decide, by decide, by decide, by decide⟩, ?_⟩
  refine ⟨⟨by decide, by decide, by decide, by decide, by decide⟩, ?_⟩
  refine ⟨⟨by decide, by decide, by decide, by decide, by decide⟩, ?_⟩
  refine ⟨⟨by decide, by decide, by decide, by decide, by decide⟩, ?_⟩
  refine ⟨⟨by decide, by decide, by decide, by decide, by decide⟩, ?_⟩
  refine ⟨_, rfl, ?_⟩
  refine ⟨_, rfl, ?_⟩
  refine ⟨_, rfl, ?_⟩
  refine ⟨_, rfl, ?_⟩
  refine ⟨_, rfl, ?_⟩
  refine ⟨_, rfl, ?_⟩
  refine hQ _ q_fs.rf.cp.cp.cp.cp.cp.cp.cp.s1.s1.s1 ⟨fun i hi => cp_at (M := M) (a := 43 + 1) (b := 198 + 1) (n := 36) hi, fun i hi => cp_at (M := M) (a := 43 + 2) (b := 198 + 2) (n := 576) hi, fun i hi => ⟨cp_at (M := M) (a := 43 + 3) (b := 198 + 3) (n := 6) hi, cp_at (M := M) (a := 43 + 4) (b := 198 + 4) (n := 6) hi, cp_at (M := M) (a := 43 + 5) (b := 198 + 5) (n := 6) hi, cp_at (M := M) (a := 43 + 6) (b := 198 + 6) (n := 6) hi, cp_at (M := M) (a := 43 + 7) (b := 198 + 7) (n := 6) hi⟩, rfl, rfl, rfl⟩
set_option maxRecDepth 100000 in
set_option maxHeartbeats 4000000 in
theorem k2_copy_43_206 (hQ : ∀ M', q_fs [206, 206 + 1, 206 + 2, 206 + 3, 206 + 4, 206 + 5, 206 + 6, 206 + 7] [] M M' → s_eq 43 206 M M' → Q none M') : q_C q_mt (L, xs, q_shp) E nX8_copyFrom (d + 1) 0 0 [.ref 206, .ref 43] M Q := by
  refine w_in 90 [] ?_
  refine ⟨⟨by decide, by decide, by decide, by decide, by decide⟩, ?_⟩
  refine ⟨⟨by decide, by decide, by decide, by decide, by decide⟩, ?_⟩
  refine ⟨⟨by decide, by decide, by decide, by decide, by decide⟩, ?_⟩
  refine ⟨⟨by decide, by decide, by decide, by decide, by decide⟩, ?_⟩
  refine ⟨⟨by decide, by decide, by decide, by decide, by decide⟩, ?_⟩
  refine ⟨⟨by decide, by decide, by decide, by decide, by decide⟩, ?_⟩
  refine ⟨⟨by decide, by decide, by decide, by decide, by decide⟩, ?_⟩
  refine ⟨_, rfl, ?_⟩
  refine ⟨_, rfl, ?_⟩
  refine ⟨_, rfl, ?_⟩
  refine ⟨_, rfl, ?_⟩
  refine ⟨_, rfl, ?_⟩
  refine ⟨_, rfl, ?_⟩
  refine hQ _ q_fs.rf.cp.cp.cp.cp.cp.cp.cp.s1.s1.s1 ⟨fun i hi => cp_at (M := M) (a := 43 + 1) (b := 206 + 1) (n := 36) hi, fun i hi => cp_at (M := M) (a := 43 + 2) (b := 206 + 2) (n := 576) hi, fun i hi => ⟨cp_at (M := M) (a := 43 + 3) (b := 206 + 3) (n := 6) hi, cp_at (M := M) (a := 43 + 4) (b := 206 + 4) (n := 6) hi, cp_at (M := M) (a := 43 + 5) (b := 206 + 5) (n := 6) hi, cp_at (M := M) (a := 43 + 6) (b := 206 + 6) (n := 6) hi, cp_at (M := M) (a := 43 + 7) (b := 206 + 7) (n := 6) hi⟩, rfl, rfl, rfl⟩
set_option maxRecDepth 100000 in
set_option maxHeartbeats 4000000 in
theorem k2_copy_43_214 (hQ : ∀ M', q_fs [214, 214 + 1, 214 + 2, 214 + 3, 214 + 4, 214 + 5, 214 + 6, 214 + 7] [] M M' → s_eq 43 214 M M' → Q none M') : q_C q_mt (L, xs, q_shp) E nX8_copyFrom (d + 1) 0 0 [.ref 214, .ref 43] M Q := by
  refine w_in 90 [] ?_
  refine ⟨⟨by decide, by decide, by decide, by decide, by decide⟩, ?_⟩
  refine ⟨⟨by decide, by decide, by decide, by decide, by decide⟩, ?_⟩
  refine ⟨⟨by decide, by decide, by decide, by decide, by decide⟩, ?_⟩
  refine ⟨⟨by decide, by decide, by decide, by decide, by decide⟩, ?_⟩
  refine ⟨⟨by decide, by decide, by decide, by decide, by decide⟩, ?_⟩
  refine ⟨⟨by decide, by decide, by decide, by decide, by decide⟩, ?_⟩
  refine ⟨⟨by decide, by decide, by decide, by decide, by decide⟩, ?_⟩
  refine ⟨_, rfl, ?_⟩
  refine ⟨_, rfl, ?_⟩
  refine ⟨_, rfl, ?_⟩
  refine ⟨_, rfl, ?_⟩
  refine ⟨_, rfl, ?_⟩
  refine ⟨_, rfl, ?_⟩
  refine hQ _ q_fs.rf.cp.cp.cp.cp.cp.cp.cp.s1.s1.s1 ⟨fun i hi => cp_at (M := M) (a := 43 + 1) (b := 214 + 1) (n := 36) hi, fun i hi => cp_at (M := M) (a := 43 + 2) (b := 214 + 2) (n := 576) hi, fun i hi => ⟨cp_at (M := M) (a := 43 + 3) (b := 214 + 3) (n := 6) hi, cp_at (M := M) (a := 43 + 4) (b := 214 + 4) (n := 6) hi, cp_at (M := M) (a := 43 + 5) (b := 214 + 5) (n := 6) hi, cp_at (M := M) (a := 43 + 6) (b := 214 + 6) (n := 6) hi, cp_at (M := M) (a := 43 + 7) (b := 214 + 7) (n := 6) hi⟩, rfl, rfl, rfl⟩
set_option maxRecDepth 100000 in
set_option maxHeartbeats 4000000 in
theorem k2_copy_43_222 (hQ : ∀ M', q_fs [222, 222 + 1, 222 + 2, 222 + 3, 222 + 4, 222 + 5, 222 + 6, 222 + 7] [] M M' → s_eq 43 222 M M' → Q none M') : q_C q_mt (L, xs, q_shp) E nX8_copyFrom (d + 1) 0 0 [.ref 222, .ref 43] M Q := by
  refine w_in 90 [] ?_
  refine ⟨⟨by decide, by decide, by decide, by decide, by decide⟩, ?_⟩
  refine ⟨⟨by decide, by decide, by decide, by decide, by decide⟩, ?_⟩
  refine ⟨⟨by decide, by decide, by decide, by decide, by decide⟩, ?_⟩
  refine ⟨⟨by decide, by decide, by decide, by decide, by decide⟩, ?_⟩
  refine ⟨⟨by decide, by decide, by decide, by decide, by decide⟩, ?_⟩
  refine ⟨⟨by decide, by decide, by decide, by decide, by decide⟩, ?_⟩
  refine ⟨⟨by decide, by decide, by decide, by decide, by decide⟩, ?_⟩
  refine ⟨_, rfl, ?_⟩
  refine ⟨_, rfl, ?_⟩
  refine ⟨_, rfl, ?_⟩
  refine ⟨_, rfl, ?_⟩
  refine ⟨_, rfl, ?_⟩
  refine ⟨_, rfl, ?_⟩
  refine hQ _ q_fs.rf.cp.cp.cp.cp.cp.cp.cp.s1.s1.s1 ⟨fun i hi => cp_at (M := M) (a := 43 + 1) (b := 222 + 1) (n := 36) hi, fun i hi => cp_at (M := M) (a := 43 + 2) (b := 222 + 2) (n := 576) hi, fun i hi => ⟨cp_at (M := M) (a := 43 + 3) (b := 222 + 3) (n := 6) hi, cp_at (M := M) (a := 43 + 4) (b := 222 + 4) (n := 6) hi, cp_at (M := M) (a := 43 + 5) (b := 222 + 5) (n := 6) hi, cp_at (M := M) (a := 43 + 6) (b := 222 + 6) (n := 6) hi, cp_at (M := M) (a := 43 + 7) (b := 222 + 7) (n := 6) hi⟩, rfl, rfl, rfl⟩
set_option maxRecDepth 100000 in
set_option maxHeartbeats 4000000 in
theorem k2_copy_43_230 (hQ : ∀ M', q_fs [230, 230 + 1, 230 + 2, 230 + 3, 230 + 4, 230 + 5, 230 + 6, 230 + 7] [] M M' → s_eq 43 230 M M' → Q none M') : q_C q_mt (L, xs, q_shp) E nX8_copyFrom (d + 1) 0 0 [.ref 230, .ref 43] M Q := by
  refine w_in 90 [] ?_
  refine ⟨⟨by decide, by decide, by decide, by decide, by decide⟩, ?_⟩
  refine ⟨⟨by decide, by decide, by decide, by decide, by decide⟩, ?_⟩
  refine ⟨⟨by decide, by decide, by decide, by decide, by decide⟩, ?_⟩
  refine ⟨⟨by decide, by decide, by decide, by decide, by decide⟩, ?_⟩
  refine ⟨⟨by decide, by decide, by decide, by decide, by decide⟩, ?_⟩
  refine ⟨⟨by decide, by decide, by decide, by decide, by decide⟩, ?_⟩
  refine ⟨⟨by decide, by decide, by decide, by decide, by decide⟩, ?_⟩
  refine ⟨_, rfl, ?_⟩
  refine ⟨_, rfl, ?_⟩
  refine ⟨_, rfl, ?_⟩
  refine ⟨_, rfl, ?_⟩
  refine ⟨_, rfl, ?_⟩
  refine ⟨_, rfl, ?_⟩
  refine hQ _ q_fs.rf.cp.cp.cp.cp.cp.cp.cp.s1.s1.s1 ⟨fun i hi => cp_at (M := M) (a := 43 + 1) (b := 230 + 1) (n := 36) hi, fun i hi => cp_at (M := M) (a := 43 + 2) (b := 230 + 2) (n := 576) hi, fun i hi => ⟨cp_at (M := M) (a := 43 + 3) (b := 230 + 3) (n := 6) hi, cp_at (M := M) (a := 43 + 4) (b := 230 + 4) (n := 6) hi, cp_at (M := M) (a := 43 + 5) (b := 230 + 5) (n := 6) hi, cp_at (M := M) (a := 43 + 6) (b := 230 + 6) (n := 6) hi, cp_at (M := M) (a := 43 + 7) (b := 230 + 7) (n := 6) hi⟩, rfl, rfl, rfl⟩
set_option maxRecDepth 100000 in
set_option maxHeartbeats 4000000 in
theorem k2_copy_70_43 (hQ : ∀ M', q_fs [43, 43 + 1, 43 + 2, 43 + 3, 43 + 4, 43 + 5, 43 + 6, 43 + 7] [] M M' → s_eq 70 43 M M' → Q none M') : q_C q_mt (L, xs, q_shp) E nX8_copyFrom (d + 1) 0 0 [.ref 43, .ref 70] M Q := by
  refine w_in 90 [] ?_
  refine ⟨⟨by decide, by decide, by decide, by decide, by decide⟩, ?_⟩
  refine ⟨⟨by decide, by decide, by decide, by decide, by decide⟩, ?_⟩
  refine ⟨⟨by decide, by decide, by decide, by decide, by decide⟩, ?_⟩
  refine ⟨⟨by decide, by decide, by decide, by decide, by decide⟩, ?_⟩
  refine ⟨⟨by decide, by decide, by decide, by decide, by decide⟩, ?_⟩
  refine ⟨⟨by decide, by decide, by decide, by decide, by decide⟩, ?_⟩
  refine ⟨⟨by decide, by decide, by decide, by decide, by decide⟩, ?_⟩
  refine ⟨_, rfl, ?_⟩
  refine ⟨_, rfl, ?_⟩
  refine ⟨_, rfl, ?_⟩
  refine ⟨_, rfl, ?_⟩
  refine ⟨_, rfl, ?_⟩
  refine ⟨_, rfl, ?_⟩
  refine hQ _ q_fs.rf.cp.cp.cp.cp.cp.cp.cp.s1.s1.s1 ⟨fun i hi => cp_at (M := M) (a := 70 + 1) (b := 43 + 1) (n := 36) hi, fun i hi => cp_at (M := M) (a := 70 + 2) (b := 43 + 2) (n := 576) hi, fun i hi => ⟨cp_at (M := M) (a := 70 + 3) (b := 43 + 3) (n := 6) hi, cp_at (M := M) (a := 70 + 4) (b := 43 + 4) (n := 6) hi, cp_at (M := M) (a := 70 + 5) (b := 43 + 5) (n := 6) hi, cp_at (M := M) (a := 70 + 6) (b := 43 + 6) (n := 6) hi, cp_at (M := M) (a := 70 + 7) (b := 43 + 7) (n := 6) hi⟩, rfl, rfl, rfl⟩
set_option maxRecDepth 100000 in
set_option maxHeartbeats 4000000 in
theorem k2_copy_78_43 (hQ : ∀ M', q_fs [43, 43 + 1, 43 + 2, 43 + 3, 43 + 4, 43 + 5, 43 + 6, 43 + 7] [] M M' → s_eq 78 43 M M' → Q none M') : q_C q_mt (L, xs, q_shp) E nX8_copyFrom (d + 1) 0 0 [.ref 43, .ref 78] M Q := by
  refine w_in 90 [] ?_
  refine ⟨⟨by decide, by decide, by decide, by decide, by decide⟩, ?_⟩
  refine ⟨⟨by decide, by decide, by decide, by decide, by decide⟩, ?_⟩
  refine ⟨⟨by decide, by decide, by decide, by decide, by decide⟩, ?_⟩
  refine ⟨⟨by decide, by decide, by decide, by decide, by decide⟩, ?_⟩
  refine ⟨⟨by decide, by decide, by decide, by decide, by decide⟩, ?_⟩
  refine ⟨⟨by decide, by decide, by decide, by decide, by decide⟩, ?_⟩
  refine ⟨⟨by decide, by decide, by decide, by decide, by decide⟩, ?_⟩
  refine ⟨_, rfl, ?_⟩
  refine ⟨_, rfl, ?_⟩
  refine ⟨_, rfl, ?_⟩
  refine ⟨_, rfl, ?_⟩
  refine ⟨_, rfl, ?_⟩
  refine ⟨_, rfl, ?_⟩
  refine hQ _ q_fs.rf.cp.cp.cp.cp.cp.cp.cp.s1.s1.s1 ⟨fun i hi => cp_at (M := M) (a := 78 + 1) (b := 43 + 1) (n := 36) hi, fun i hi => cp_at (M := M) (a := 78 + 2) (b := 43 + 2) (n := 576) hi, fun i hi => ⟨cp_at (M := M) (a := 78 + 3) (b := 43 + 3) (n := 6) hi, cp_at (M := M) (a := 78 + 4) (b := 43 + 4) (n := 6) hi, cp_at (M := M) (a := 78 + 5) (b := 43 + 5) (n := 6) hi, cp_at (M := M) (a := 78 + 6) (b := 43 + 6) (n := 6) hi, cp_at (M := M) (a := 78 + 7) (b := 43 + 7) (n := 6) hi⟩, rfl, rfl, rfl⟩
set_option maxRecDepth 100000 in
set_option maxHeartbeats 4000000 in
theorem k2_copy_86_43 (hQ : ∀ M', q_fs [43, 43 + 1, 43 + 2, 43 + 3, 43 + 4, 43 + 5, 43 + 6, 43 + 7] [] M M' → s_eq 86 43 M M' → Q none M') : q_C q_mt (L, xs, q_shp) E nX8_copyFrom (d + 1) 0 0 [.ref 43, .ref 86] M Q := by
  refine w_in 90 [] ?_
  refine ⟨⟨by decide, by decide, by decide, by decide, by decide⟩, ?_⟩
  refine ⟨⟨by decide, by decide, by decide, by decide, by decide⟩, ?_⟩
  refine ⟨⟨by decide, by decide, by decide, by decide, by decide⟩, ?_⟩
  refine ⟨⟨by decide, by decide, by decide, by decide, by decide⟩, ?_⟩
  refine ⟨⟨by decide, by decide, by decide, by decide, by decide⟩, ?_⟩
  refine ⟨⟨by decide, by decide, by decide, by decide, by decide⟩, ?_⟩
  refine ⟨⟨by decide, by decide, by decide, by decide, by decide⟩, ?_⟩
  refine ⟨_, rfl, ?_⟩
  refine ⟨_, rfl, ?_⟩
  refine ⟨_, rfl, ?_⟩
  refine ⟨_, rfl, ?_⟩
  refine ⟨_, rfl, ?_⟩
  refine ⟨_, rfl, ?_⟩
  refine hQ _ q_fs.rf.cp.cp.cp.cp.cp.cp.cp.s1.s1.s1 ⟨fun i hi => cp_at (M := M) (a := 86 + 1) (b := 43 + 1) (n := 36) hi, fun i hi => cp_at (M := M) (a := 86 + 2) (b := 43 + 2) (n := 576) hi, fun i hi => ⟨cp_at (M := M) (a := 86 + 3) (b := 43 + 3) (n := 6) hi, cp_at (M := M) (a := 86 + 4) (b := 43 + 4) (n := 6) hi, cp_at (M := M) (a := 86 + 5) (b := 43 + 5) (n := 6) hi, cp_at (M := M) (a := 86 + 6) (b := 43 + 6) (n := 6) hi, cp_at (M := M) (a := 86 + 7) (b := 43 + 7) (n := 6) hi⟩, rfl, rfl, rfl⟩
set_option maxRecDepth 100000 in
set_option maxHeartbeats 4000000 in
theorem k2_copy_94_43 (hQ : ∀ M', q_fs [43, 43 + 1, 43 + 2, 43 + 3, 43 + 4, 43 + 5, 43 + 6, 43 + 7] [] M M' → s_eq 94 43 M M' → Q none M') : q_C q_mt (L, xs, q_shp) E nX8_copyFrom (d + 1) 0 0 [.ref 43, .ref 94] M Q := by
  refine w_in 90 [] ?_
  refine ⟨⟨by decide, by decide, by decide, by decide, by decide⟩, ?_⟩
  refine ⟨⟨by decide, by decide, by decide, by decide, by decide⟩, ?_⟩
  refine ⟨⟨by decide, by decide, by decide, by decide, by decide⟩, ?_⟩
  refine ⟨⟨by decide, by decide, by decide, by decide, by decide⟩, ?_⟩
  refine ⟨⟨by decide, by decide, by decide, by decide, by decide⟩, ?_⟩
  refine ⟨⟨by decide, by decide, by decide, by decide, by decide⟩, ?_⟩
  refine ⟨⟨by decide, by decide, by decide, by decide, by decide⟩, ?_⟩
  refine ⟨_, rfl, ?_⟩
  refine ⟨_, rfl, ?_⟩
  refine ⟨_, rfl, ?_⟩
  refine ⟨_, rfl, ?_⟩
  refine ⟨_, rfl, ?_⟩
  refine ⟨_, rfl, ?_⟩
  refine hQ _ q_fs.rf.cp.cp.cp.cp.cp.cp.cp.s1.s1.s1 ⟨fun i hi => cp_at (M := M) (a := 94 + 1) (b := 43 + 1) (n := 36) hi, fun i hi => cp_at (M := M) (a := 94 + 2) (b := 43 + 2) (n := 576) hi, fun i hi => ⟨cp_at (M := M) (a := 94 + 3) (b := 43 + 3) (n := 6) hi, cp_at (M := M) (a := 94 + 4) (b := 43 + 4) (n := 6) hi, cp_at (M := M) (a := 94 + 5) (b := 43 + 5) (n := 6) hi, cp_at (M := M) (a := 94 + 6) (b := 43 + 6) (n := 6) hi, cp_at (M := M) (a := 94 + 7) (b := 43 + 7) (n := 6) hi⟩, rfl, rfl, rfl⟩
set_option maxRecDepth 100000 in
set_option maxHeartbeats 4000000 in
theorem k2_copy_102_43 (hQ : ∀ M', q_fs [43, 43 + 1, 43 + 2, 43 + 3, 43 + 4, 43 + 5, 43 + 6, 43 + 7] [] M M' → s_eq 102 43 M M' → Q none M') : q_C q_mt (L, xs, q_shp) E nX8_copyFrom (d + 1) 0 0 [.ref 43, .ref 102] M Q := by
  refine w_in 90 [] ?_
  refine ⟨⟨by decide, by decide, by decide, by decide, by decide⟩, ?_⟩
  refine ⟨⟨by decide, by decide, by decide, by decide, by decide⟩, ?_⟩
  refine ⟨⟨by decide, by decide, by decide, by decide, by decide⟩, ?_⟩
  refine ⟨⟨by decide, by decide, by decide, by decide, by decide⟩, ?_⟩
  refine ⟨⟨by decide, by decide, by decide, by decide, by decide⟩, ?_⟩
  refine ⟨⟨by decide, by decide, by decide, by decide, by decide⟩, ?_⟩
  refine ⟨⟨by decide, by decide, by decide, by decide, by decide⟩, ?_⟩
  refine ⟨_, rfl, ?_⟩
  refine ⟨_, rfl, ?_⟩
  refine ⟨_, rfl, ?_⟩
  refine ⟨_, rfl, ?_⟩
  refine ⟨_, rfl, ?_⟩
  refine ⟨_, rfl, ?_⟩
  refine hQ _ q_fs.rf.cp.cp.cp.cp.cp.cp.cp.s1.s1.s1 ⟨fun i hi => cp_at (M := M) (a := 102 + 1) (b := 43 + 1) (n := 36) hi, fun i hi => cp_at (M := M) (a := 102 + 2) (b := 43 + 2) (n := 576) hi, fun i hi => ⟨cp_at (M := M) (a := 102 + 3) (b := 43 + 3) (n := 6) hi, cp_at (M := M) (a := 102 + 4) (b := 43 + 4) (n := 6) hi, cp_at (M := M) (a := 102 + 5) (b := 43 + 5) (n := 6) hi, cp_at (M := M) (a := 102 + 6) (b := 43 + 6) (n := 6) hi, cp_at (M := M) (a := 102 + 7) (b := 43 + 7) (n := 6) hi⟩, rfl, rfl, rfl⟩
set_option maxRecDepth 100000 in
set_option maxHeartbeats 4000000 in
theorem k2_copy_110_43 (hQ : ∀ M', q_fs [43, 43 + 1, 43 + 2, 43 + 3, 43 + 4, 43 + 5, 43 + 6, 43 + 7] [] M M' → s_eq 110 43 M M' → Q none M') : q_C q_mt (L, xs, q_shp) E nX8_copyFrom (d + 1) 0 0 [.ref 43, .ref 110] M Q := by
  refine w_in 90 [] ?_
  refine ⟨⟨by decide, by decide, by decide, by decide, by decide⟩, ?_⟩
  refine ⟨⟨by decide, by decide, by decide, by decide, by decide⟩, ?_⟩
  refine ⟨⟨by decide, by decide, by decide, by decide, by decide⟩, ?_⟩
  refine ⟨⟨by decide, by decide, by decide, by decide, by decide⟩, ?_⟩
  refine ⟨⟨by decide, by decide, by decide, by decide, by decide⟩, ?_⟩
  refine ⟨⟨by decide, by decide, by decide, by decide, by decide⟩, ?_⟩
  refine ⟨⟨by decide, by decide, by decide, by decide, by decide⟩, ?_⟩
  refine ⟨_, rfl, ?_⟩
  refine ⟨_, rfl, ?_⟩
  refine ⟨_, rfl, ?_⟩
  refine ⟨_, rfl, ?_⟩
  refine ⟨_, rfl, ?_⟩
  refine ⟨_, rfl, ?_⟩
  refine hQ _ q_fs.rf.cp.cp.cp.cp.cp.cp.cp.s1.s1.s1 ⟨fun i hi => cp_at (M := M) (a := 110 + 1) (b := 43 + 1) (n := 36) hi, fun i hi => cp_at (M := M) (a := 110 + 2) (b := 43 + 2) (n := 576) hi, fun i hi => ⟨cp_at (M := M) (a := 110 + 3) (b := 43 + 3) (n := 6) hi, cp_at (M := M) (a := 110 + 4) (b := 43 + 4) (n := 6) hi, cp_at (M := M) (a := 110 + 5) (b := 43 + 5) (n := 6) hi, cp_at (M := M) (a := 110 + 6) (b := 43 + 6) (n := 6) hi, cp_at (M := M) (a := 110 + 7) (b := 43 + 7) (n := 6) hi⟩, rfl, rfl, rfl⟩
set_option maxRecDepth 100000 in
set_option maxHeartbeats 4000000 in
theorem k2_copy_118_43 (hQ : ∀ M', q_fs [43, 43 + 1, 43 + 2, 43 + 3, 43 + 4, 43 + 5, 43 + 6, 43 + 7] [] M M' → s_eq 118 43 M M' → Q none M') : q_C q_mt (L, xs, q_shp) E nX8_copyFrom (d + 1) 0 0 [.ref 43, .ref 118] M Q := by
  refine w_in 90 [] ?_
  refine ⟨⟨by decide, by decide, by decide, by decide, by decide⟩, ?_⟩
  refine ⟨⟨by decide, by decide, by decide, by decide, by decide⟩, ?_⟩
  refine ⟨⟨by decide, by decide, by decide, by decide, by decide⟩, ?_⟩
  refine ⟨⟨by decide, by decide, by decide, by decide, by decide⟩, ?_⟩
  refine ⟨⟨by decide, by decide, by decide, by decide, by decide⟩, ?_⟩
  refine ⟨⟨by decide, by decide, by decide, by decide, by decide⟩, ?_⟩
  refine ⟨⟨by decide, by decide, by decide, by decide, by decide⟩, ?_⟩
  refine ⟨_, rfl, ?_⟩
  refine ⟨_, rfl, ?_⟩
  refine ⟨_, rfl, ?_⟩
  refine ⟨_, rfl, ?_⟩
  refine ⟨_, rfl, ?_⟩
  refine ⟨_, rfl, ?_⟩
  refine hQ _ q_fs.rf.cp.cp.cp.cp.cp.cp.cp.s1.s1.s1 ⟨fun i hi => cp_at (M := M) (a := 118 + 1) (b := 43 + 1) (n := 36) hi, fun i hi => cp_at (M := M) (a := 118 + 2) (b := 43 + 2) (n := 576) hi, fun i hi => ⟨cp_at (M := M) (a := 118 + 3) (b := 43 + 3) (n := 6) hi, cp_at (M := M) (a := 118 + 4) (b := 43 + 4) (n := 6) hi, cp_at (M := M) (a := 118 + 5) (b := 43 + 5) (n := 6) hi, cp_at (M := M) (a := 118 + 6) (b := 43 + 6) (n := 6) hi, cp_at (M := M) (a := 118 + 7) (b := 43 + 7) (n := 6) hi⟩, rfl, rfl, rfl⟩
set_option maxRecDepth 100000 in
set_option maxHeartbeats 4000000 in
theorem k2_copy_126_43 (hQ : ∀ M', q_fs [43, 43 + 1, 43 + 2, 43 + 3, 43 + 4, 43 + 5, 43 + 6, 43 + 7] [] M M' → s_eq 126 43 M M' → Q none M') : q_C q_mt (L, xs, q_shp) E nX8_copyFrom (d + 1) 0 0 [.ref 43, .ref 126] M Q := by
  refine w_in 90 [] ?_
  refine ⟨⟨by decide, by decide, by decide, by decide, by decide⟩, ?_⟩
  refine ⟨⟨by decide, by decide, by decide, by decide, by decide⟩, ?_⟩
  refine ⟨⟨by decide, by decide, by decide, by decide, by decide⟩, ?_⟩
  refine ⟨⟨by decide, by decide, by decide, by decide, by decide⟩, ?_⟩
  refine ⟨⟨by decide, by decide, by decide, by decide, by decide⟩, ?_⟩
  refine ⟨⟨by decide, by decide, by decide, by decide, by decide⟩, ?_⟩
  refine ⟨⟨by decide, by decide, by decide, by decide, by decide⟩, ?_⟩
  refine ⟨_, rfl, ?_⟩
  refine ⟨_, rfl, ?_⟩
  refine ⟨_, rfl, ?_⟩
  refine ⟨_, rfl, ?_⟩
  refine ⟨_, rfl, ?_⟩
  refine ⟨_, rfl, ?_⟩
  refine hQ _ q_fs.rf.cp.cp.cp.cp.cp.cp.cp.s1.s1.s1 ⟨fun i hi => cp_at (M := M) (a := 126 + 1) (b := 43 + 1) (n := 36) hi, fun i hi => cp_at (M := M) (a := 126 + 2) (b := 43 + 2) (n := 576) hi, fun i hi => ⟨cp_at (M := M) (a := 126 + 3) (b := 43 + 3) (n := 6) hi, cp_at (M := M) (a := 126 + 4) (b := 43 + 4) (n := 6) hi, cp_at (M := M) (a := 126 + 5) (b := 43 + 5) (n := 6) hi, cp_at (M := M) (a := 126 + 6) (b := 43 + 6) (n := 6) hi, cp_at (M := M) (a := 126 + 7) (b := 43 + 7) (n := 6) hi⟩, rfl, rfl, rfl⟩
set_option maxRecDepth 100000 in
set_option maxHeartbeats 4000000 in
theorem k2_copy_134_43 (hQ : ∀ M', q_fs [43, 43 + 1, 43 + 2, 43 + 3, 43 + 4, 43 + 5, 43 + 6, 43 + 7] [] M M' → s_eq 134 43 M M' → Q none M') : q_C q_mt (L, xs, q_shp) E nX8_copyFrom (d + 1) 0 0 [.ref 43, .ref 134] M Q := by
  refine w_in 90 [] ?_
  refine ⟨⟨by decide, by decide, by decide, by decide, by decide⟩, ?_⟩
  refine ⟨⟨by decide, by decide, by decide, by decide, by decide⟩, ?_⟩
  refine ⟨⟨by decide, by decide, by decide, by decide, by decide⟩, ?_⟩
  refine ⟨⟨by decide, by decide, by decide, by decide, by decide⟩, ?_⟩
  refine ⟨⟨by decide, by decide, by decide, by decide, by decide⟩, ?_⟩
  refine ⟨⟨by decide, by decide, by decide, by decide, by decide⟩, ?_⟩
  refine ⟨⟨by decide, by decide, by decide, by decide, by decide⟩, ?_⟩
  refine ⟨_, rfl, ?_⟩
  refine ⟨_, rfl, ?_⟩
  refine ⟨_, rfl, ?_⟩
  refine ⟨_, rfl, ?_⟩
  refine ⟨_, rfl, ?_⟩
  refine ⟨_, rfl, ?_⟩
  refine hQ _ q_fs.rf.cp.cp.cp.cp.cp.cp.cp.s1.s1.s1 ⟨fun i hi => cp_at (M := M) (a := 134 + 1) (b := 43 + 1) (n := 36) hi, fun i hi => cp_at (M := M) (a := 134 + 2) (b := 43 + 2) (n := 576) hi, fun i hi => ⟨cp_at (M := M) (a := 134 + 3) (b := 43 + 3) (n := 6) hi, cp_at (M := M) (a := 134 + 4) (b := 43 + 4) (n := 6) hi, cp_at (M := M) (a := 134 + 5) (b := 43 + 5) (n := 6) hi, cp_at (M := M) (a := 134 + 6) (b := 43 + 6) (n := 6) hi, cp_at (M := M) (a := 134 + 7) (b := 43 + 7) (n := 6) hi⟩, rfl, rfl, rfl⟩
set_option maxRecDepth 100000 in
set_option maxHeartbeats 4000000 in
theorem k2_copy_142_43 (hQ : ∀ M', q_fs [43, 43 + 1, 43 + 2, 43 + 3, 43 + 4, 43 + 5, 43 + 6, 43 + 7] [] M M' → s_eq 142 43 M M' → Q none M') : q_C q_mt (L, xs, q_shp) E nX8_copyFrom (d + 1) 0 0 [.ref 43, .ref 142] M Q := by
  refine w_in 90 [] ?_
  refine ⟨⟨by decide, by decide, by decide, by decide, by decide⟩, ?_⟩
  refine ⟨⟨by decide, by decide, by decide, by decide, by decide⟩, ?_⟩
  refine ⟨⟨by decide, by decide, by decide, by decide, by decide⟩, ?_⟩
  refine ⟨⟨by decide, by decide, by decide, by decide, by decide⟩, ?_⟩
  refine ⟨⟨by decide, by decide, by decide, by decide, by decide⟩, ?_⟩
  refine ⟨⟨by decide, by decide, by decide, by decide, by decide⟩, ?_⟩
  refine ⟨⟨by decide, by decide, by decide, by decide, by decide⟩, ?_⟩
  refine ⟨_, rfl, ?_⟩
  refine ⟨_, rfl, ?_⟩
  refine ⟨_, rfl, ?_⟩
  refine ⟨_, rfl, ?_⟩
  refine ⟨_, rfl, ?_⟩
  refine ⟨_, rfl, ?_⟩
  refine hQ _ q_fs.rf.cp.cp.cp.cp.cp.cp.cp.s1.s1.s1 ⟨fun i hi => cp_at (M := M) (a := 142 + 1) (b := 43 + 1) (n := 36) hi, fun i hi => cp_at (M := M) (a := 142 + 2) (b := 43 + 2) (n := 576) hi, fun i hi => ⟨cp_at (M := M) (a := 142 + 3) (b := 43 + 3) (n := 6) hi, cp_at (M := M) (a := 142 + 4) (b := 43 + 4) (n := 6) hi, cp_at (M := M) (a := 142 + 5) (b := 43 + 5) (n := 6) hi, cp_at (M := M) (a := 142 + 6) (b := 43 + 6) (n := 6) hi, cp_at (M := M) (a := 142 + 7) (b := 43 + 7) (n := 6) hi⟩, rfl, rfl, rfl⟩
set_option maxRecDepth 100000 in
set_option maxHeartbeats 4000000 in
theorem k2_copy_150_43 (hQ : ∀ M', q_fs [43, 43 + 1, 43 + 2, 43 + 3, 43 + 4, 43 + 5, 43 + 6, 43 + 7] [] M M' → s_eq 150 43 M M' → Q none M') : q_C q_mt (L, xs, q_shp) E nX8_copyFrom (d + 1) 0 0 [.ref 43, .ref 150] M Q := by
  refine w_in 90 [] ?_
  refine ⟨⟨by decide, by decide, by decide, by decide, by decide⟩, ?_⟩
  refine ⟨⟨by decide, by decide, by decide, by decide, by decide⟩, ?_⟩
  refine ⟨⟨by decide, by decide, by decide, by decide, by decide⟩, ?_⟩
  refine ⟨⟨by decide, by decide, by decide, by decide, by decide⟩, ?_⟩
  refine ⟨⟨by decide, by decide, by decide, by decide, by decide⟩, ?_⟩
  refine ⟨⟨by decide, by decide, by decide, by decide, by decide⟩, ?_⟩
  refine ⟨⟨by decide, by decide, by decide, by decide, by decide⟩, ?_⟩
  refine ⟨_, rfl, ?_⟩
  refine ⟨_, rfl, ?_⟩
  refine ⟨_, rfl, ?_⟩
  refine ⟨_, rfl, ?_⟩
  refine ⟨_, rfl, ?_⟩
  refine ⟨_, rfl, ?_⟩
  refine hQ _ q_fs.rf.cp.cp.cp.cp.cp.cp.cp.s1.s1.s1 ⟨fun i hi => cp_at (M := M) (a := 150 + 1) (b := 43 + 1) (n := 36) hi, fun i hi => cp_at (M := M) (a := 150 + 2) (b := 43 + 2) (n := 576) hi, fun i hi => ⟨cp_at (M := M) (a := 150 + 3) (b := 43 + 3) (n := 6) hi, cp_at (M := M) (a := 150 + 4) (b := 43 + 4) (n := 6) hi, cp_at (M := M) (a := 150 + 5) (b := 43 + 5) (n := 6) hi, cp_at (M := M) (a := 150 + 6) (b := 43 + 6) (n := 6) hi, cp_at (M := M) (a := 150 + 7) (b := 43 + 7) (n := 6) hi⟩, rfl, rfl, rfl⟩
set_option maxRecDepth 100000 in
set_option maxHeartbeats 4000000 in
theorem k2_copy_158_43 (hQ : ∀ M', q_fs [43, 43 + 1, 43 + 2, 43 + 3, 43 + 4, 43 + 5, 43 + 6, 43 + 7] [] M M' → s_eq 158 43 M M' → Q none M') : q_C q_mt (L, xs, q_shp) E nX8_copyFrom (d + 1) 0 0 [.ref 43, .ref 158] M Q := by
  refine w_in 90 [] ?_
  refine ⟨⟨by decide, by decide, by decide, by decide, by decide⟩, ?_⟩
  refine ⟨⟨by decide, by decide, by decide, by decide, by decide⟩, ?_⟩
  refine ⟨⟨by decide, by decide, by decide, by decide, by decide⟩, ?_⟩
  refine ⟨⟨by decide, by decide, by decide, by decide, by decide⟩, ?_⟩
  refine ⟨⟨by decide, by decide, by decide, by decide, by decide⟩, ?_⟩
  refine ⟨⟨by decide, by decide, by decide, by decide, by decide⟩, ?_⟩
  refine ⟨⟨by decide, by decide, by decide, by decide, by decide⟩, ?_⟩
  refine ⟨_, rfl, ?_⟩
  refine ⟨_, rfl, ?_⟩
  refine ⟨_, rfl, ?_⟩
  refine ⟨_, rfl, ?_⟩
  refine ⟨_, rfl, ?_⟩
  refine ⟨_, rfl, ?_⟩
  refine hQ _ q_fs.rf.cp.cp.cp.cp.cp.cp.cp.s1.s1.s1 ⟨fun i hi => cp_at (M := M) (a := 158 + 1) (b := 43 + 1) (n := 36) hi, fun i hi => cp_at (M := M) (a := 158 + 2) (b := 43 + 2) (n := 576) hi, fun i hi => ⟨cp_at (M := M) (a := 158 + 3) (b := 43 + 3) (n := 6) hi, cp_at (M := M) (a := 158 + 4) (b := 43 + 4) (n := 6) hi, cp_at (M := M) (a := 158 + 5) (b := 43 + 5) (n := 6) hi, cp_at (M := M) (a := 158 + 6) (b := 43 + 6) (n := 6) hi, cp_at (M := M) (a := 158 + 7) (b := 43 + 7) (n := 6) hi⟩, rfl, rfl, rfl⟩
set_option maxRecDepth 100000 in
set_option maxHeartbeats 4000000 in
theorem k2_copy_166_43 (hQ : ∀ M', q_fs [43, 43 + 1, 43 + 2, 43 + 3, 43 + 4, 43 + 5, 43 + 6, 43 + 7] [] M M' → s_eq 166 43 M M' → Q none M') : q_C q_mt (L, xs, q_shp) E nX8_copyFrom (d + 1) 0 0 [.ref 43, .ref 166] M Q := by
  refine w_in 90 [] ?_
  refine ⟨⟨by decide, by decide, by decide, by decide, by decide⟩, ?_⟩
  refine ⟨⟨by decide, by decide, by decide, by decide, by decide⟩, ?_⟩
  refine ⟨⟨by decide, by decide, by decide, by decide, by decide⟩, ?_⟩
  refine ⟨⟨by decide, by decide, by decide, by decide, by decide⟩, ?_⟩
  refine ⟨⟨by decide, by decide, by decide, by decide, by decide⟩, ?_⟩
  refine ⟨⟨by decide, by decide, by decide, by decide, by decide⟩, ?_⟩
  refine ⟨⟨by decide, by decide, by decide, by decide, by decide⟩, ?_⟩
  refine ⟨_, rfl, ?_⟩
  refine ⟨_, rfl, ?_⟩
  refine ⟨_, rfl, ?_⟩
  refine ⟨_, rfl, ?_⟩
  refine ⟨_, rfl, ?_⟩
  refine ⟨_, rfl, ?_⟩
  refine hQ _ q_fs.rf.cp.cp.cp.cp.cp.cp.cp.s1.s1.s1 ⟨fun i hi => cp_at (M := M) (a := 166 + 1) (b := 43 + 1) (n := 36) hi, fun i hi => cp_at (M := M) (a := 166 + 2) (b := 43 + 2) (n := 576) hi, fun i hi => ⟨cp_at (M := M) (a := 166 + 3) (b := 43 + 3) (n := 6) hi, cp_at (M := M) (a := 166 + 4) (b := 43 + 4) (n := 6) hi, cp_at (M := M) (a := 166 + 5) (b := 43 + 5) (n := 6) hi, cp_at (M := M) (a := 166 + 6) (b := 43 + 6) (n := 6) hi, cp_at (M := M) (a := 166 + 7) (b := 43 + 7) (n := 6) hi⟩, rfl, rfl, rfl⟩
set_option maxRecDepth 100000 in
set_option maxHeartbeats 4000000 in
theorem k2_copy_174_43 (hQ : ∀ M', q_fs [43, 43 + 1, 43 + 2, 43 + 3, 43 + 4, 43 + 5, 43 + 6, 43 + 7] [] M M' → s_eq 174 43 M M' → Q none M') : q_C q_mt (L, xs, q_shp) E nX8_copyFrom (d + 1) 0 0 [.ref 43, .ref 174] M Q := by
  refine w_in 90 [] ?_
  refine ⟨⟨by decide, by decide, by decide, by decide, by decide⟩, ?_⟩
  refine ⟨⟨by decide, by decide, by decide, by decide, by decide⟩, ?_⟩
  refine ⟨⟨by decide, by decide, by decide, by decide, by decide⟩, ?_⟩
  refine ⟨⟨by decide, by decide, by decide, by decide, by decide⟩, ?_⟩
  refine ⟨⟨by decide, by decide, by decide, by decide, by decide⟩, ?_⟩
  refine ⟨⟨by decide, by decide, by decide, by decide, by decide⟩, ?_⟩
  refine ⟨⟨by decide, by decide, by decide, by decide, by decide⟩, ?_⟩
  refine ⟨_, rfl, ?_⟩
  refine ⟨_, rfl, ?_⟩
  refine ⟨_, rfl, ?_⟩
  refine ⟨_, rfl, ?_⟩
  refine ⟨_, rfl, ?_⟩
  refine ⟨_, rfl, ?_⟩
  refine hQ _ q_fs.rf.cp.cp.cp.cp.cp.cp.cp.s1.s1.s1 ⟨fun i hi => cp_at (M := M) (a := 174 + 1) (b := 43 + 1) (n := 36) hi, fun i hi => cp_at (M := M) (a := 174 + 2) (b := 43 + 2) (n := 576) hi, fun i hi => ⟨cp_at (M := M) (a := 174 + 3) (b := 43 + 3) (n := 6) hi, cp_at (M := M) (a := 174 + 4) (b := 43 + 4) (n := 6) hi, cp_at (M := M) (a := 174 + 5) (b := 43 + 5) (n := 6) hi, cp_at (M := M) (a := 174 + 6) (b := 43 + 6) (n := 6) hi, cp_at (M := M) (a := 174 + 7) (b := 43 + 7) (n := 6) hi⟩, rfl, rfl, rfl⟩
set_option maxRecDepth 100000 in
set_option maxHeartbeats 4000000 in
theorem k2_copy_182_43 (hQ : ∀ M', q_fs [43, 43 + 1, 43 + 2, 43 + 3, 43 + 4, 43 + 5, 43 + 6, 43 + 7] [] M M' → s_eq 182 43 M M' → Q none M') : q_C q_mt (L, xs, q_shp) E nX8_copyFrom (d + 1) 0 0 [.ref 43, .ref 182] M Q := by
  refine w_in 90 [] ?_
  refine ⟨⟨by decide, by decide, by decide, by decide, by decide⟩, ?_⟩
  refine ⟨⟨by decide, by decide, by decide, by decide, by decide⟩, ?_⟩
  refine ⟨⟨by decide, by decide, by decide, by decide, by decide⟩, ?_⟩
  refine ⟨⟨by decide, by decide, by decide, by decide, by decide⟩, ?_⟩
  refine ⟨⟨by decide, by decide, by decide, by decide, by decide⟩, ?_⟩
  refine ⟨⟨by decide, by decide, by decide, by decide, by decide⟩, ?_⟩
  refine ⟨⟨by decide, by decide, by decide, by decide, by decide⟩, ?_⟩
  refine ⟨_, rfl, ?_⟩
  refine ⟨_, rfl, ?_⟩
  refine ⟨_, rfl, ?_⟩
  refine ⟨_, rfl, ?_⟩
  refine ⟨_, rfl, ?_⟩
  refine ⟨_, rfl, ?_⟩
  refine hQ _ q_fs.rf.cp.cp.cp.cp.cp.cp.cp.s1.s1.s1 ⟨fun i hi => cp_at (M := M) (a := 182 + 1) (b := 43 + 1) (n := 36) hi, fun i hi => cp_at (M := M) (a := 182 + 2) (b := 43 + 2) (n := 576) hi, fun i hi => ⟨cp_at (M := M) (a := 182 + 3) (b := 43 + 3) (n := 6) hi, cp_at (M := M) (a := 182 + 4) (b := 43 + 4) (n := 6) hi, cp_at (M := M) (a := 182 + 5) (b := 43 + 5) (n := 6) hi, cp_at (M := M) (a := 182 + 6) (b := 43 + 6) (n := 6) hi, cp_at (M := M) (a := 182 + 7) (b := 43 + 7) (n := 6) hi⟩, rfl, rfl, rfl⟩
set_option maxRecDepth 100000 in
set_option maxHeartbeats 4000000 in
theorem k2_copy_190_43 (hQ : ∀ M', q_fs [43, 43 + 1, 43 + 2, 43 + 3, 43 + 4, 43 + 5, 43 + 6, 43 + 7] [] M M' → s_eq 190 43 M M' → Q none M') : q_C q_mt (L, xs, q_shp) E nX8_copyFrom (d + 1) 0 0 [.ref 43, .ref 190] M Q := by
  refine w_in 90 [] ?_
  refine ⟨⟨by decide, by decide, by decide, by decide, by decide⟩, ?_⟩
  refine ⟨⟨by decide, by decide, by decide, by decide, by decide⟩, ?_⟩
  refine ⟨⟨by decide, by decide, by decide, by decide, by decide⟩, ?_⟩
  refine ⟨⟨by decide, by decide, by decide, by decide, by decide⟩, ?_⟩
  refine ⟨⟨by decide, by decide, by decide, by decide, by decide⟩, ?_⟩
  refine ⟨⟨by decide, by decide, by decide, by decide, by decide⟩, ?_⟩
  refine ⟨⟨by decide, by decide, by decide, by decide, by decide⟩, ?_⟩
  refine ⟨_, rfl, ?_⟩
  refine ⟨_, rfl, ?_⟩
  refine ⟨_, rfl, ?_⟩
  refine ⟨_, rfl, ?_⟩
  refine ⟨_, rfl, ?_⟩
  refine ⟨_, rfl, ?_⟩
  refine hQ _ q_fs.rf.cp.cp.cp.cp.cp.cp.cp.s1.s1.s1 ⟨fun i hi => cp_at (M := M) (a := 190 + 1) (b := 43 + 1) (n := 36) hi, fun i hi => cp_at (M := M) (a := 190 + 2) (b := 43 + 2) (n := 576) hi, fun i hi => ⟨cp_at (M := M) (a := 190 + 3) (b := 43 + 3) (n := 6) hi, cp_at (M := M) (a := 190 + 4) (b := 43 + 4) (n := 6) hi, cp_at (M := M) (a := 190 + 5) (b := 43 + 5) (n := 6) hi, cp_at (M := M) (a := 190 + 6) (b := 43 + 6) (n := 6) hi, cp_at (M := M) (a := 190 + 7) (b := 43 + 7) (n := 6) hi⟩, rfl, rfl, rfl⟩
set_option maxRecDepth 100000 in
set_option maxHeartbeats 4000000 in
theorem k2_copy_198_43 (hQ : ∀ M', q_fs [43, 43 + 1, 43 + 2, 43 + 3, 43 + 4, 43 + 5, 43 + 6, 43 + 7] [] M M' → s_eq 198 43 M M' → Q none M') : q_C q_mt (L, xs, q_shp) E nX8_copyFrom (d + 1) 0 0 [.ref 43, .ref 198] M Q := by
  refine w_in 90 [] ?_
  refine ⟨⟨by decide, by decide, by decide, by decide, by decide⟩, ?_⟩
  refine ⟨⟨by decide, by decide, by decide, by decide, by decide⟩, ?_⟩
  refine ⟨⟨by decide, by decide, by decide, by decide, by decide⟩, ?_⟩
  refine ⟨⟨by decide, by decide, by decide, by decide, by decide⟩, ?_⟩
  refine ⟨⟨by decide, by decide, by decide, by decide, by decide⟩, ?_⟩
  refine ⟨⟨by decide, by decide, by decide, by decide, by decide⟩, ?_⟩
  refine ⟨⟨by decide, by decide, by decide, by decide, by decide⟩, ?_⟩
  refine ⟨_, rfl, ?_⟩
  refine ⟨_, rfl, ?_⟩
  refine ⟨_, rfl, ?_⟩
  refine ⟨_, rfl, ?_⟩
  refine ⟨_, rfl, ?_⟩
  refine ⟨_, rfl, ?_⟩
  refine hQ _ q_fs.rf.cp.cp.cp.cp.cp.cp.cp.s1.s1.s1 ⟨fun i hi => cp_at (M := M) (a := 198 + 1) (b := 43 + 1) (n := 36) hi, fun i hi => cp_at (M := M) (a := 198 + 2) (b := 43 + 2) (n := 576) hi, fun i hi => ⟨cp_at (M := M) (a := 198 + 3) (b := 43 + 3) (n := 6) hi, cp_at (M := M) (a := 198 + 4) (b := 43 + 4) (n := 6) hi, cp_at (M := M) (a := 198 + 5) (b := 43 + 5) (n := 6) hi, cp_at (M := M) (a := 198 + 6) (b := 43 + 6) (n := 6) hi, cp_at (M := M) (a := 198 + 7) (b := 43 + 7) (n := 6) hi⟩, rfl, rfl, rfl⟩
set_option maxRecDepth 100000 in
set_option maxHeartbeats 4000000 in
theorem k2_copy_206_43 (hQ : ∀ M', q_fs [43, 43 + 1, 43 + 2, 43 + 3, 43 + 4, 43 + 5, 43 + 6, 43 + 7] [] M M' → s_eq 206 43 M M' → Q none M') : q_C q_mt (L, xs, q_shp) E nX8_copyFrom (d + 1) 0 0 [.ref 43, .ref 206] M Q := by
  refine w_in 90 [] ?_
  refine ⟨⟨by decide, by decide, by decide, by decide, by decide⟩, ?_⟩
  refine ⟨⟨by decide, by decide, by decide, by decide, by decide⟩, ?_⟩
  refine ⟨⟨by decide, by decide, by decide, by decide, by decide⟩, ?_⟩
  refine ⟨⟨by decide, by decide, by decide, by decide, by decide⟩, ?_⟩
  refine ⟨⟨by decide, by decide, by decide, by decide, by decide⟩, ?_⟩
  refine ⟨⟨by decide, by decide, by decide, by decide, by decide⟩, ?_⟩
  refine ⟨⟨by decide, by decide, by decide, by decide, by decide⟩, ?_⟩
  refine ⟨_, rfl, ?_⟩
  refine ⟨_, rfl, ?_⟩
  refine ⟨_, rfl, ?_⟩
  refine ⟨_, rfl, ?_⟩
  refine ⟨_, rfl, ?_⟩
  refine ⟨_, rfl, ?_⟩
  refine hQ _ q_fs.rf.cp.cp.cp.cp.cp.cp.cp.s1.s1.s1 ⟨fun i hi => cp_at (M := M) (a := 206 + 1) (b := 43 + 1) (n := 36) hi, fun i hi => cp_at (M := M) (a := 206 + 2) (b := 43 + 2) (n := 576) hi, fun i hi => ⟨cp_at (M := M) (a := 206 + 3) (b := 43 + 3) (n := 6) hi, cp_at (M := M) (a := 206 + 4) (b := 43 + 4) (n := 6) hi, cp_at (M := M) (a := 206 + 5) (b := 43 + 5) (n := 6) hi, cp_at (M := M) (a := 206 + 6) (b := 43 + 6) (n := 6) hi, cp_at (M := M) (a := 206 + 7) (b := 43 + 7) (n := 6) hi⟩, rfl, rfl, rfl⟩
set_option maxRecDepth 100000 in
set_option maxHeartbeats 4000000 in
theorem k2_copy_214_43 (hQ : ∀ M', q_fs [43, 43 + 1, 43 + 2, 43 + 3, 43 + 4, 43 + 5, 43 + 6, 43 + 7] [] M M' → s_eq 214 43 M M' → Q none M') : q_C q_mt (L, xs, q_shp) E nX8_copyFrom (d + 1) 0 0 [.ref 43, .ref 214] M Q := by
  refine w_in 90 [] ?_
  refine ⟨⟨by decide, by decide, by decide, by decide, by decide⟩, ?_⟩
  refine ⟨⟨by decide, by decide, by decide, by decide, by decide⟩, ?_⟩
  refine ⟨⟨by decide, by decide, by decide, by decide, by decide⟩, ?_⟩
  refine ⟨⟨by decide, by decide, by decide, by decide, by decide⟩, ?_⟩
  refine ⟨⟨by decide, by decide, by decide, by decide, by decide⟩, ?_⟩
  refine ⟨⟨by decide, by decide, by decide, by decide, by decide⟩, ?_⟩
  refine ⟨⟨by decide, by decide, by decide, by decide, by decide⟩, ?_⟩
  refine ⟨_, rfl, ?_⟩
  refine ⟨_, rfl, ?_⟩
  refine ⟨_, rfl, ?_⟩
  refine ⟨_, rfl, ?_⟩
  refine ⟨_, rfl, ?_⟩
  refine ⟨_, rfl, ?_⟩
  refine hQ _ q_fs.rf.cp.cp.cp.cp.cp.cp.cp.s1.s1.s1 ⟨fun i hi => cp_at (M := M) (a := 214 + 1) (b := 43 + 1) (n := 36) hi, fun i hi => cp_at (M := M) (a := 214 + 2) (b := 43 + 2) (n := 576) hi, fun i hi => ⟨cp_at (M := M) (a := 214 + 3) (b := 43 + 3) (n := 6) hi, cp_at (M := M) (a := 214 + 4) (b := 43 + 4) (n := 6) hi, cp_at (M := M) (a := 214 + 5) (b := 43 + 5) (n := 6) hi, cp_at (M := M) (a := 214 + 6) (b := 43 + 6) (n := 6) hi, cp_at (M := M) (a := 214 + 7) (b := 43 + 7) (n := 6) hi⟩, rfl, rfl, rfl⟩
set_option maxRecDepth 100000 in
set_option maxHeartbeats 4000000 in
theorem k2_copy_222_43 (hQ : ∀ M', q_fs [43, 43 + 1, 43 + 2, 43 + 3, 43 + 4, 43 + 5, 43 + 6, 43 + 7] [] M M' → s_eq 222 43 M M' → Q none M') : q_C q_mt (L, xs, q_shp) E nX8_copyFrom (d + 1) 0 0 [.ref 43, .ref 222] M Q := by
  refine w_in 90 [] ?_
  refine ⟨⟨by decide, by decide, by decide, by decide, by decide⟩, ?_⟩
  refine ⟨⟨by decide, by decide, by decide, by decide, by decide⟩, ?_⟩
  refine ⟨⟨by decide, by decide, by decide, by decide, by decide⟩, ?_⟩
  refine ⟨⟨by decide, by decide, by decide, by decide, by decide⟩, ?_⟩
  refine ⟨⟨by decide, by decide, by decide, by decide, by decide⟩, ?_⟩
  refine ⟨⟨by decide, by decide, by decide, by decide, by decide⟩, ?_⟩
  refine ⟨⟨by decide, by decide, by decide, by decide, by decide⟩, ?_⟩
  refine ⟨_, rfl, ?_⟩
  refine ⟨_, rfl, ?_⟩
  refine ⟨_, rfl, ?_⟩
  refine ⟨_, rfl, ?_⟩
  refine ⟨_, rfl, ?_⟩
  refine ⟨_, rfl, ?_⟩
  refine hQ _ q_fs.rf.cp.cp.cp.cp.cp.cp.cp.s1.s1.s1 ⟨fun i hi => cp_at (M := M) (a := 222 + 1) (b := 43 + 1) (n := 36) hi, fun i hi => cp_at (M := M) (a := 222 + 2) (b := 43 + 2) (n := 576) hi, fun i hi => ⟨cp_at (M := M) (a := 222 + 3) (b := 43 + 3) (n := 6) hi, cp_at (M := M) (a := 222 + 4) (b := 43 + 4) (n := 6) hi, cp_at (M := M) (a := 222 + 5) (b := 43 + 5) (n := 6) hi, cp_at (M := M) (a := 222 + 6) (b := 43 + 6) (n := 6) hi, cp_at (M := M) (a := 222 + 7) (b := 43 + 7) (n := 6) hi⟩, rfl, rfl, rfl⟩
set_option maxRecDepth 100000 in
set_option maxHeartbeats 4000000 in
theorem k2_copy_230_43 (hQ : ∀ M', q_fs [43, 43 + 1, 43 + 2, 43 + 3, 43 + 4, 43 + 5, 43 + 6, 43 + 7] [] M M' → s_eq 230 43 M M' → Q none M') : q_C q_mt (L, xs, q_shp) E nX8_copyFrom (d + 1) 0 0 [.ref 43, .ref 230] M Q := by
  refine w_in 90 [] ?_
  refine ⟨⟨by decide, by decide, by decide, by decide, by decide⟩, ?_⟩
  refine ⟨⟨by decide, by decide, by decide, by decide, by decide⟩, ?_⟩
  refine ⟨⟨by decide, by decide, by decide, by decide, by decide⟩, ?_⟩
  refine ⟨⟨by decide, by decide, by decide, by decide, by decide⟩, ?_⟩
  refine ⟨⟨by decide, by decide, by decide, by decide, by decide⟩, ?_⟩
  refine ⟨⟨by decide, by decide, by decide, by decide, by decide⟩, ?_⟩
  refine ⟨⟨by decide, by decide, by decide, by decide, by decide⟩, ?_⟩
  refine ⟨_, rfl, ?_⟩
  refine ⟨_, rfl, ?_⟩
  refine ⟨_, rfl, ?_⟩
  refine ⟨_, rfl, ?_⟩
  refine ⟨_, rfl, ?_⟩
  refine ⟨_, rfl, ?_⟩
  refine hQ _ q_fs.rf.cp.cp.cp.cp.cp.cp.cp.s1.s1.s1 ⟨fun i hi => cp_at (M := M) (a := 230 + 1) (b := 43 + 1) (n := 36) hi, fun i hi => cp_at (M := M) (a := 230 + 2) (b := 43 + 2) (n := 576) hi, fun i hi => ⟨cp_at (M := M) (a := 230 + 3) (b := 43 + 3) (n := 6) hi, cp_at (M := M) (a := 230 + 4) (b := 43 + 4) (n := 6) hi, cp_at (M := M) (a := 230 + 5) (b := 43 + 5) (n := 6) hi, cp_at (M := M) (a := 230 + 6) (b := 43 + 6) (n := 6) hi, cp_at (M := M) (a := 230 + 7) (b := 43 + 7) (n := 6) hi⟩, rfl, rfl, rfl⟩
set_option maxRecDepth 100000 in
set_option maxHeartbeats 4000000 in
theorem k2_copy_43_52 (hQ : ∀ M', q_fs [52, 52 + 1, 52 + 2, 52 + 3, 52 + 4, 52 + 5, 52 + 6, 52 + 7] [] M M' → s_eq 43 52 M M' → Q none M') : q_C q_mt (L, xs, q_shp) E nX8_copyFrom (d + 1) 0 0 [.ref 52, .ref 43] M Q := by
  refine w_in 90 [] ?_
  refine ⟨⟨by decide, by decide, by decide, by decide, by decide⟩, ?_⟩
  refine ⟨⟨by decide, by decide, by decide, by decide, by decide⟩, ?_⟩
  refine ⟨⟨by decide, by decide, by decide, by decide, by decide⟩, ?_⟩
  refine ⟨⟨by decide, by decide, by decide, by decide, by decide⟩, ?_⟩
  refine ⟨⟨by decide, by decide, by decide, by decide, by decide⟩, ?_⟩
  refine ⟨⟨by decide, by decide, by decide, by decide, by decide⟩, ?_⟩
  refine ⟨⟨by decide, by decide, by decide, by decide, by decide⟩, ?_⟩
  refine ⟨_, rfl, ?_⟩
  refine ⟨_, rfl, ?_⟩
  refine ⟨_, rfl, ?_⟩
  refine ⟨_, rfl, ?_⟩
  refine ⟨_, rfl, ?_⟩
  refine ⟨_, rfl, ?_⟩
  refine hQ _ q_fs.rf.cp.cp.cp.cp.cp.cp.cp.s1.s1.s1 ⟨fun i hi => cp_at (M := M) (a := 43 + 1) (b := 52 + 1) (n := 36) hi, fun i hi => cp_at (M := M) (a := 43 + 2) (b := 52 + 2) (n := 576) hi, fun i hi => ⟨cp_at (M := M) (a := 43 + 3) (b := 52 + 3) (n := 6) hi, cp_at (M := M) (a := 43 + 4) (b := 52 + 4) (n := 6) hi, cp_at (M := M) (a := 43 + 5) (b := 52 + 5) (n := 6) hi, cp_at (M := M) (a := 43 + 6) (b := 52 + 6) (n := 6) hi, cp_at (M := M) (a := 43 + 7) (b := 52 + 7) (n := 6) hi⟩, rfl, rfl, rfl⟩
set_option maxRecDepth 100000 in
set_option maxHeartbeats 4000000 in
theorem k2_copy_52_43 (hQ : ∀ M', q_fs [43, 43 + 1, 43 + 2, 43 + 3, 43 + 4, 43 + 5, 43 + 6, 43 + 7] [] M M' → s_eq 52 43 M M' → Q none M') : q_C q_mt (L, xs, q_shp) E nX8_copyFrom (d + 1) 0 0 [.ref 43, .ref 52] M Q := by
  refine w_in 90 [] ?_
  refine ⟨⟨by decide, by decide, by decide, by decide, by decide⟩, ?_⟩
  refine ⟨⟨by decide, by decide, by decide, by decide, by decide⟩, ?_⟩
  refine ⟨⟨by decide, by decide, by decide, by decide, by decide⟩, ?_⟩
  refine ⟨⟨by decide, by decide, by decide, by decide, by decide⟩, ?_⟩
  refine ⟨⟨by decide, by decide, by decide, by decide, by decide⟩, ?_⟩
  refine ⟨⟨by decide, by decide, by decide, by decide, by decide⟩, ?_⟩
  refine ⟨⟨by decide, by decide, by decide, by decide, by decide⟩, ?_⟩
  refine ⟨_, rfl, ?_⟩
  refine ⟨_, rfl, ?_⟩
  refine ⟨_, rfl, ?_⟩
  refine ⟨_, rfl, ?_⟩
  refine ⟨_, rfl, ?_⟩
  refine ⟨_, rfl, ?_⟩
  refine hQ _ q_fs.rf.cp.cp.cp.cp.cp.cp.cp.s1.s1.s1 ⟨fun i hi => cp_at (M := M) (a := 52 + 1) (b := 43 + 1) (n := 36) hi, fun i hi => cp_at (M := M) (a := 52 + 2) (b := 43 + 2) (n := 576) hi, fun i hi => ⟨cp_at (M := M) (a := 52 + 3) (b := 43 + 3) (n := 6) hi, cp_at (M := M) (a := 52 + 4) (b := 43 + 4) (n := 6) hi, cp_at (M := M) (a := 52 + 5) (b := 43 + 5) (n := 6) hi, cp_at (M := M) (a := 52 + 6) (b := 43 + 6) (n := 6) hi, cp_at (M := M) (a := 52 + 7) (b := 43 + 7) (n := 6) hi⟩, rfl, rfl, rfl⟩
set_option maxRecDepth 100000 in
set_option maxHeartbeats 4000000 in
theorem k2_copy_43_60 (hQ : ∀ M', q_fs [60, 60 + 1, 60 + 2, 60 + 3, 60 + 4, 60 + 5, 60 + 6, 60 + 7] [] M M' → s_eq 43 60 M M' → Q none M') : q_C q_mt (L, xs, q_shp) E nX8_copyFrom (d + 1) 0 0 [.ref 60, .ref 43] M Q := by
  refine w_in 90 [] ?_
  refine ⟨⟨by decide, by decide, by decide, by decide, by decide⟩, ?_⟩
  refine ⟨⟨by decide, by decide, by decide, by decide, by decide⟩, ?_⟩
  refine ⟨⟨by decide, by decide, by decide, by decide, by decide⟩, ?_⟩
  refine ⟨⟨by decide, by decide, by decide, by decide, by decide⟩, ?_⟩
  refine ⟨⟨by decide, by decide, by decide, by decide, by decide⟩, ?_⟩
  refine ⟨⟨by decide, by decide, by decide, by decide, by decide⟩, ?_⟩
  refine ⟨⟨by decide, by decide, by decide, by decide, by decide⟩, ?_⟩
  refine ⟨_, rfl, ?_⟩
  refine ⟨_, rfl, ?_⟩
  refine ⟨_, rfl, ?_⟩
  refine ⟨_, rfl, ?_⟩
  refine ⟨_, rfl, ?_⟩
  refine ⟨_, rfl, ?_⟩
  refine hQ _ q_fs.rf.cp.cp.cp.cp.cp.cp.cp.s1.s1.s1 ⟨fun i hi => cp_at (M := M) (a := 43 + 1) (b := 60 + 1) (n := 36) hi, fun i hi => cp_at (M := M) (a := 43 + 2) (b := 60 + 2) (n := 576) hi, fun i hi => ⟨cp_at (M := M) (a := 43 + 3) (b := 60 + 3) (n := 6) hi, cp_at (M := M) (a := 43 + 4) (b := 60 + 4) (n := 6) hi, cp_at (M := M) (a := 43 + 5) (b := 60 + 5) (n := 6) hi, cp_at (M := M) (a := 43 + 6) (b := 60 + 6) (n := 6) hi, cp_at (M := M) (a := 43 + 7) (b := 60 + 7) (n := 6) hi⟩, rfl, rfl, rfl⟩
set_option maxRecDepth 100000 in
set_option maxHeartbeats 4000000 in
theorem k2_copy_60_43 (hQ : ∀ M', q_fs [43, 43 + 1, 43 + 2, 43 + 3, 43 + 4, 43 + 5, 43 + 6, 43 + 7] [] M M' → s_eq 60 43 M M' → Q none M') : q_C q_mt (L, xs, q_shp) E nX8_copyFrom (d + 1) 0 0 [.ref 43, .ref 60] M Q := by
  refine w_in 90 [] ?_
  refine ⟨⟨by decide, by decide, by decide, by decide, by decide⟩, ?_⟩
  refine ⟨⟨by decide, by decide, by decide, by decide, by decide⟩, ?_⟩
  refine ⟨⟨by decide, by decide, by decide, by decide, by decide⟩, ?_⟩
  refine ⟨⟨by decide, by decide, by decide, by decide, by decide⟩, ?_⟩
  refine ⟨⟨by decide, by decide, by decide, by decide, by decide⟩, ?_⟩
  refine ⟨⟨by decide, by decide, by decide, by decide, by decide⟩, ?_⟩
  refine ⟨⟨by decide, by decide, by decide, by decide, by decide⟩, ?_⟩
  refine ⟨_, rfl, ?_⟩
  refine ⟨_, rfl, ?_⟩
  refine ⟨_, rfl, ?_⟩
  refine ⟨_, rfl, ?_⟩
  refine ⟨_, rfl, ?_⟩
  refine ⟨_, rfl, ?_⟩
  refine hQ _ q_fs.rf.cp.cp.cp.cp.cp.cp.cp.s1.s1.s1 ⟨fun i hi => cp_at (M := M) (a := 60 + 1) (b := 43 + 1) (n := 36) hi, fun i hi => cp_at (M := M) (a := 60 + 2) (b := 43 + 2) (n := 576) hi, fun i hi => ⟨cp_at (M := M) (a := 60 + 3) (b := 43 + 3) (n := 6) hi, cp_at (M := M) (a := 60 + 4) (b := 43 + 4) (n := 6) hi, cp_at (M := M) (a := 60 + 5) (b := 43 + 5) (n := 6) hi, cp_at (M := M) (a := 60 + 6) (b := 43 + 6) (n := 6) hi, cp_at (M := M) (a := 60 + 7) (b := 43 + 7) (n := 6) hi⟩, rfl, rfl, rfl⟩
set_option maxRecDepth 100000 in
set_option maxHeartbeats 4000000 in
theorem k2_copy_43_257 (hQ : ∀ M', q_fs [257, 257 + 1, 257 + 2, 257 + 3, 257 + 4, 257 + 5, 257 + 6, 257 + 7] [] M M' → s_eq 43 257 M M' → Q none M') : q_C q_mt (L, xs, q_shp) E nX8_copyFrom (d + 1) 0 0 [.ref 257, .ref 43] M Q := by
  refine w_in 90 [] ?_
  refine ⟨⟨by decide, by decide, by decide, by decide, by decide⟩, ?_⟩
  refine ⟨⟨by decide, by decide, by decide, by decide, by decide⟩, ?_⟩
  refine ⟨⟨by decide, by decide, by decide, by decide, by decide⟩, ?_⟩
  refine ⟨⟨by decide, by decide, by decide, by decide, by decide⟩, ?_⟩
  refine ⟨⟨by decide, by decide, by decide, by decide, by decide⟩, ?_⟩
  refine ⟨⟨by decide, by decide, by decide, by decide, by decide⟩, ?_⟩
  refine ⟨⟨by decide, by decide, by decide, by decide, by decide⟩, ?_⟩
  refine ⟨_, rfl, ?_⟩
  refine ⟨_, rfl, ?_⟩
  refine ⟨_, rfl, ?_⟩
  refine ⟨_, rfl, ?_⟩
  refine ⟨_, rfl, ?_⟩
  refine ⟨_, rfl, ?_⟩
  refine hQ _ q_fs.rf.cp.cp.cp.cp.cp.cp.cp.s1.s1.s1 ⟨fun i hi => cp_at (M := M) (a := 43 + 1) (b := 257 + 1) (n := 36) hi, fun i hi => cp_at (M := M) (a := 43 + 2) (b := 257 + 2) (n := 576) hi, fun i hi => ⟨cp_at (M := M) (a := 43 + 3) (b := 257 + 3) (n := 6) hi, cp_at (M := M) (a := 43 + 4) (b := 257 + 4) (n := 6) hi, cp_at (M := M) (a := 43 + 5) (b := 257 + 5) (n := 6) hi, cp_at (M := M) (a := 43 + 6) (b := 257 + 6) (n := 6) hi, cp_at (M := M) (a := 43 + 7) (b := 257 + 7) (n := 6) hi⟩, rfl, rfl, rfl⟩
end CO
