/-! the next token, as the class reads it -/
section AD
variable {L : Nat} {xs : Nat → Int32} {E : q_E} {d : Nat} {M : q_M} {t : q_T} {n : sN} {Q : Option Value → q_M → Prop} {P : q_M → Prop}
variable {x : Nat → Nat} {len : Nat}
abbrev fT : List (Nat × Nat) := [(3, 3), (3, 4), (3, 5), (3, 9), (3, 10)]
/-- a word from s to r -/
def g_wd (M : q_M) (x : Nat → Nat) (s r : Nat) : Prop := M.2 3 5 = Int64.ofInt (w5E x s (r - s) : Nat) ∧ ((∃ w, isW x s (r - s) w ∧ M.1 3 3 = Int32.ofInt 1 ∧ M.1 3 4 = nI w) ∨ ((∀ w, ¬ isW x s (r - s) w) ∧ M.1 3 3 = nI (if r - s ≤ 7 then 2 else 5) ∧ M.1 3 4 = Int32.ofInt 0))
/-- the token from s to r that the class has before it -/
def g_tk (M : q_M) (x : Nat → Nat) (len s r : Nat) : Prop := M.1 3 9 = nI s ∧ M.1 3 10 = nI r ∧ ((s = len ∧ r = s ∧ M.1 3 3 = Int32.ofInt 0 ∧ M.1 3 4 = Int32.ofInt 0) ∨ (s < len ∧ isLt (x s) = true ∧ r = rnE isLt x (len - s) s ∧ g_wd M x s r) ∨ (s < len ∧ isDg (x s) = true ∧ r = rnE isDg x (len - s) s ∧ M.1 3 3 = nI (if r - s ≤ 4 then 3 else 5) ∧ M.1 3 4 = nI (nvE x s (r - s))) ∨ (s < len ∧ isLt (x s) = false ∧ isDg (x s) = false ∧ r = s + 1 ∧ M.1 3 3 = Int32.ofInt 4 ∧ M.1 3 4 = nI (x s)))
theorem g_lx.fs {l : List Nat} {f : List (Nat × Nat)} {M' : q_M} (h : g_lx M) (hf : q_fs l f M M') (h1 : ∀ i, q_scr l f 5 i = false := by intro i; exact rfl) : g_lx M' := fun w hw => (hf 5 w (h1 w)).2.trans (h w hw)
set_option maxRecDepth 100000 in
set_option maxHeartbeats 4000000 in
theorem k2_advance (g : g_tx M x len) (gl : g_lx M) {i : Nat} (hi : i ≤ len) (h10 : M.1 3 10 = nI i) (hQ : ∀ M' s r, s = rnE isBl x (len - i) i → q_fs [] fT M M' → g_tk M' x len s r → Q none M') : q_C q_mt (L, xs, q_shp) E nX9_advance (d + 1) 0 0 [.ref 3] M Q := by
  obtain ⟨s1, s2, s3, s4⟩ := rnE_s (f := isBl) (x := x) (k := len - i) (i := i)
  have hl := g.2.1
  have hQ := fun M' r => hQ M' _ r rfl
  revert s1 s2 s3 s4 hQ
  generalize rnE isBl x (len - i) i = s
  intro s1 s2 s3 s4 hQ
  have t65 : ∀ M2, q_fs [] fT M M2 → M2.1 3 9 = nI s → M2.1 3 10 = nI s → M2.1 3 4 = Int32.ofInt 0 → q_G q_mt (L, xs, q_shp) E nX9_advance (d + 1) 0 0 (q_Q (L, xs, q_shp) E Q) 65 [some (.ref 3)] [] M2 := by
    intro M2 hf e9 e10 e4
    have g2 := g.fs hf
    by_cases q : s = len
    · refine w_at 90 [0, 52, 65, 119, 154] ?_
      refine ⟨_, e10, ?_⟩
      refine ⟨_, g2.1, ?_⟩
      refine z_lt (s : Int) len (fun z => by omega) (fun _ => ?_)
      refine ⟨_, rfl, ?_⟩
      refine hQ _ _ hf.s1 ⟨?_, ?_, Or.inl ⟨q, rfl, q_si_s, ?_⟩⟩
      · rw [q_si_n (by omega)]
        exact e9
      · rw [q_si_n (by omega)]
        exact e10
      · rw [q_si_n (by omega)]
        exact e4
    · have hs : s < len := by omega
      have hb := g2.2.2 s hs
      have t154 : isLt (x s) = false → isDg (x s) = false → q_G q_mt (L, xs, q_shp) E nX9_advance (d + 1) 0 0 (q_Q (L, xs, q_shp) E Q) 154 [some (.ref 3)] [] M2 := by
        intro n1 n2
        refine w_at 90 [0, 52, 65, 119, 154] ?_
        refine ⟨_, rfl, ?_⟩
        refine ⟨_, e10, ?_⟩
        refine ⟨s, _, by (first | assumption | (simp only [z_nat, z_lit, ← Int32.ofInt_add, ← Int32.ofInt_sub, ← Int32.ofInt_mul]; exact congrArg Int32.ofInt (by omega)) | (simp only [z_nat, z_lit, ← Int32.ofInt_add, ← Int32.ofInt_sub, ← Int32.ofInt_mul]; done) | exact congrArg Int32.ofInt (by omega) | rfl), by (dsimp only; omega), hb.1, ?_⟩
        refine ⟨_, rfl, ?_⟩
        refine ⟨_, e10, ?_⟩
        refine ⟨_, rfl, ?_⟩
        refine hQ _ (s + 1) hf.s1.s1.s1 ⟨?_, ?_, Or.inr (Or.inr (Or.inr ⟨hs, n1, n2, rfl, ?_, ?_⟩))⟩
        · rw [q_si_n (by omega), q_si_n (by omega), q_si_n (by omega)]
          exact e9
        · rw [q_si_s]
          (first | assumption | (simp only [z_nat, z_lit, ← Int32.ofInt_add, ← Int32.ofInt_sub, ← Int32.ofInt_mul]; exact congrArg Int32.ofInt (by omega)) | (simp only [z_nat, z_lit, ← Int32.ofInt_add, ← Int32.ofInt_sub, ← Int32.ofInt_mul]; done) | exact congrArg Int32.ofInt (by omega) | rfl)
        · rw [q_si_n (by omega), q_si_n (by omega), q_si_s]
        · rw [q_si_n (by omega), q_si_s]
      have t119 : isLt (x s) = false → q_G q_mt (L, xs, q_shp) E nX9_advance (d + 1) 0 0 (q_Q (L, xs, q_shp) E Q) 119 [some (.ref 3)] [] M2 := by
        intro n1
        refine w_at 90 [0, 52, 65, 119, 154] ?_
        refine ⟨_, e10, ?_⟩
        refine ⟨s, _, by (first | assumption | (simp only [z_nat, z_lit, ← Int32.ofInt_add, ← Int32.ofInt_sub, ← Int32.ofInt_mul]; exact congrArg Int32.ofInt (by omega)) | (simp only [z_nat, z_lit, ← Int32.ofInt_add, ← Int32.ofInt_sub, ← Int32.ofInt_mul]; done) | exact congrArg Int32.ofInt (by omega) | rfl), by (dsimp only; omega), hb.1, ?_⟩
        refine z_lt (x s : Int) 48 (fun z => t154 n1 (isDg_f.mpr (by omega))) (fun z => ?_)
        refine ⟨_, e10, ?_⟩
        refine ⟨s, _, by (first | assumption | (simp only [z_nat, z_lit, ← Int32.ofInt_add, ← Int32.ofInt_sub, ← Int32.ofInt_mul]; exact congrArg Int32.ofInt (by omega)) | (simp only [z_nat, z_lit, ← Int32.ofInt_add, ← Int32.ofInt_sub, ← Int32.ofInt_mul]; done) | exact congrArg Int32.ofInt (by omega) | rfl), by (dsimp only; omega), hb.1, ?_⟩
        refine z_lt 57 (x s : Int) (fun z => t154 n1 (isDg_f.mpr (by omega))) (fun z' => ?_)
        refine k2_readNumber g2 (Nat.le_of_lt hs) e9 e10 e4 (fun M3 r hr hf3 h3 h4 h5 => ?_)
        exact hQ M3 r (hf.tr hf3.mono) ⟨(hf3 3 9 rfl).1.trans e9, h5, Or.inr (Or.inr (Or.inl ⟨hs, isDg_t.mpr (by omega), hr, h3, h4⟩))⟩
      refine w_at 90 [0, 52, 65, 119, 154] ?_
      refine ⟨_, e10, ?_⟩
      refine ⟨_, g2.1, ?_⟩
      refine z_lt (s : Int) len (fun _ => ?_) (fun z => by omega)
      refine ⟨_, e10, ?_⟩
      refine ⟨s, _, by (first | assumption | (simp only [z_nat, z_lit, ← Int32.ofInt_add, ← Int32.ofInt_sub, ← Int32.ofInt_mul]; exact congrArg Int32.ofInt (by omega)) | (simp only [z_nat, z_lit, ← Int32.ofInt_add, ← Int32.ofInt_sub, ← Int32.ofInt_mul]; done) | exact congrArg Int32.ofInt (by omega) | rfl), by (dsimp only; omega), hb.1, ?_⟩
      refine z_lt (x s : Int) 97 (fun z => t119 (isLt_f.mpr (by omega))) (fun z => ?_)
      refine ⟨_, e10, ?_⟩
      refine ⟨s, _, by (first | assumption | (simp only [z_nat, z_lit, ← Int32.ofInt_add, ← Int32.ofInt_sub, ← Int32.ofInt_mul]; exact congrArg Int32.ofInt (by omega)) | (simp only [z_nat, z_lit, ← Int32.ofInt_add, ← Int32.ofInt_sub, ← Int32.ofInt_mul]; done) | exact congrArg Int32.ofInt (by omega) | rfl), by (dsimp only; omega), hb.1, ?_⟩
      refine z_lt 122 (x s : Int) (fun z => t119 (isLt_f.mpr (by omega))) (fun z' => ?_)
      refine k2_readWord g2 (gl.fs hf) (Nat.le_of_lt hs) e9 e10 e4 (fun M3 r hr hf3 h5 h10 hc => ?_)
      exact hQ M3 r (hf.tr hf3.mono) ⟨(hf3 3 9 rfl).1.trans e9, h10, Or.inr (Or.inl ⟨hs, isLt_t.mpr (by omega), hr, h5, hc⟩)⟩
  have t52 : ∀ M2, q_fs [] fT M M2 → M2.1 3 10 = nI s → q_G q_mt (L, xs, q_shp) E nX9_advance (d + 1) 0 0 (q_Q (L, xs, q_shp) E Q) 52 [some (.ref 3)] [] M2 := by
    intro M2 hf e10
    refine w_at 90 [0, 52, 65, 119, 154] ?_
    refine ⟨_, e10, ?_⟩
    refine ⟨_, rfl, ?_⟩
    refine ⟨_, rfl, ?_⟩
    refine t65 _ hf.s1.s1 ?_ ?_ ?_
    · rw [q_si_n (by omega), q_si_s]
    · rw [q_si_n (by omega), q_si_n (by omega)]
      exact e10
    · rw [q_si_s]
  have W := lp_m (W := fun j M' => i ≤ j → q_G q_mt (L, xs, q_shp) E nX9_advance (d + 1) 0 0 (q_Q (L, xs, q_shp) E Q) 0 [some (.ref 3)] [] M') (J := fun j M' => q_fs [] fT M M' ∧ M'.1 3 10 = nI j) s ?_ ?_ i M s1 ⟨q_fs.rf, h10⟩ (Nat.le_refl _)
  · refine q_en q_ok (Nat.le_of_ble_eq_true rfl) rfl ?_
    exact W
  · rintro M' ⟨hf, e10⟩ hij
    have g' := g.fs hf
    refine w_at 90 [0, 52, 65, 119, 154] ?_
    refine ⟨_, e10, ?_⟩
    refine ⟨_, g'.1, ?_⟩
    refine z_le (len : Int) s (fun z => t52 M' hf e10) (fun z => ?_)
    have ht := isBl_f.mp (s4 (by omega))
    have hb := g'.2.2 s (by omega)
    refine ⟨_, e10, ?_⟩
    refine ⟨s, _, by (first | assumption | (simp only [z_nat, z_lit, ← Int32.ofInt_add, ← Int32.ofInt_sub, ← Int32.ofInt_mul]; exact congrArg Int32.ofInt (by omega)) | (simp only [z_nat, z_lit, ← Int32.ofInt_add, ← Int32.ofInt_sub, ← Int32.ofInt_mul]; done) | exact congrArg Int32.ofInt (by omega) | rfl), by (dsimp only; omega), hb.1, ?_⟩
    refine z_eq (x s : Int) 32 (fun z => by omega) (fun z => ?_)
    refine ⟨_, e10, ?_⟩
    refine ⟨s, _, by (first | assumption | (simp only [z_nat, z_lit, ← Int32.ofInt_add, ← Int32.ofInt_sub, ← Int32.ofInt_mul]; exact congrArg Int32.ofInt (by omega)) | (simp only [z_nat, z_lit, ← Int32.ofInt_add, ← Int32.ofInt_sub, ← Int32.ofInt_mul]; done) | exact congrArg Int32.ofInt (by omega) | rfl), by (dsimp only; omega), hb.1, ?_⟩
    exact z_ne (x s : Int) 10 (fun z => t52 M' hf e10) (fun z => by omega)
  · rintro j M' hj ⟨hf, e10⟩ ih hij
    have g' := g.fs hf
    have hd := isBl_t.mp (s3 j hij hj)
    have hb := g'.2.2 j (by omega)
    have nx : q_G q_mt (L, xs, q_shp) E nX9_advance (d + 1) 0 0 (q_Q (L, xs, q_shp) E Q) 39 [some (.ref 3)] [] M' := by
      refine w_at 90 [0, 39, 52, 65, 119, 154] ?_
      refine ⟨_, e10, ?_⟩
      refine ⟨_, rfl, ?_⟩
      refine ih _ ⟨hf.s1, ?_⟩ (by omega)
      rw [q_si_s]
      (first | assumption | (simp only [z_nat, z_lit, ← Int32.ofInt_add, ← Int32.ofInt_sub, ← Int32.ofInt_mul]; exact congrArg Int32.ofInt (by omega)) | (simp only [z_nat, z_lit, ← Int32.ofInt_add, ← Int32.ofInt_sub, ← Int32.ofInt_mul]; done) | exact congrArg Int32.ofInt (by omega) | rfl)
    refine w_at 90 [0, 39, 52, 65, 119, 154] ?_
    refine ⟨_, e10, ?_⟩
    refine ⟨_, g'.1, ?_⟩
    refine z_le (len : Int) j (fun z => by omega) (fun z => ?_)
    refine ⟨_, e10, ?_⟩
    refine ⟨j, _, by (first | assumption | (simp only [z_nat, z_lit, ← Int32.ofInt_add, ← Int32.ofInt_sub, ← Int32.ofInt_mul]; exact congrArg Int32.ofInt (by omega)) | (simp only [z_nat, z_lit, ← Int32.ofInt_add, ← Int32.ofInt_sub, ← Int32.ofInt_mul]; done) | exact congrArg Int32.ofInt (by omega) | rfl), by (dsimp only; omega), hb.1, ?_⟩
    refine z_eq (x j : Int) 32 (fun z => nx) (fun z => ?_)
    refine ⟨_, e10, ?_⟩
    refine ⟨j, _, by (first | assumption | (simp only [z_nat, z_lit, ← Int32.ofInt_add, ← Int32.ofInt_sub, ← Int32.ofInt_mul]; exact congrArg Int32.ofInt (by omega)) | (simp only [z_nat, z_lit, ← Int32.ofInt_add, ← Int32.ofInt_sub, ← Int32.ofInt_mul]; done) | exact congrArg Int32.ofInt (by omega) | rfl), by (dsimp only; omega), hb.1, ?_⟩
    exact z_ne (x j : Int) 10 (fun z => by omega) (fun z => nx)
end AD
