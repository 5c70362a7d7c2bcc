/-! tokens as the class reads them -/
section TK
variable {L : Nat} {xs : Nat → Int32} {E : q_E} {d : Nat} {M : q_M} {t : q_T} {n : sN} {Q : Option Value → q_M → Prop} {P : q_M → Prop}
variable {x : Nat → Nat} {len : Nat}
/-- the class's text -/
def g_tx (M : q_M) (x : Nat → Nat) (len : Nat) : Prop := M.1 3 2 = nI len ∧ len ≤ 1200 ∧ ∀ i, i < len → M.1 4 i = nI (x i) ∧ x i < 256
theorem g_tx.fs {l : List Nat} {f : List (Nat × Nat)} {M' : q_M} (h : g_tx M x len) (hf : q_fs l f M M') (h0 : q_scr l f 3 2 = false := by exact rfl) (h1 : ∀ i, q_scr l f 4 i = false := by intro i; exact rfl) : g_tx M' x len := ⟨(hf 3 2 h0).1.trans h.1, h.2.1, fun i hi => ⟨(hf 4 i (h1 i)).1.trans (h.2.2 i hi).1, (h.2.2 i hi).2⟩⟩
abbrev fN : List (Nat × Nat) := [(3, 3), (3, 4), (3, 10)]
set_option maxRecDepth 100000 in
set_option maxHeartbeats 4000000 in
theorem k2_readNumber (g : g_tx M x len) {i : Nat} (hi : i ≤ len) (h9 : M.1 3 9 = nI i) (h10 : M.1 3 10 = nI i) (h4 : M.1 3 4 = Int32.ofInt 0) (hQ : ∀ M' r, r = rnE isDg x (len - i) i → q_fs [] fN M M' → M'.1 3 3 = nI (if r - i ≤ 4 then 3 else 5) → M'.1 3 4 = nI (nvE x i (r - i)) → M'.1 3 10 = nI r → Q none M') : q_C q_mt (L, xs, q_shp) E nX9_readNumber (d) 0 0 [.ref 3] M Q := by
  obtain ⟨s1, s2, s3, s4⟩ := rnE_s (f := isDg) (x := x) (k := len - i) (i := i)
  have hl := g.2.1
  have hQ := fun M' => hQ M' _ rfl
  revert s1 s2 s3 s4 hQ
  generalize rnE isDg x (len - i) i = r
  intro s1 s2 s3 s4 hQ
  have dg : ∀ j, i ≤ j → j < r → 48 ≤ x j ∧ x j ≤ 57 := fun j h1 h2 => isDg_t.mp (s3 j h1 h2)
  have W := lp_m (W := fun j M' => i ≤ j → q_G q_mt (L, xs, q_shp) E nX9_readNumber (d) 0 0 (q_Q (L, xs, q_shp) E Q) 0 [some (.ref 3)] [] M') (J := fun j M' => q_fs [] fN M M' ∧ M'.1 3 10 = nI j ∧ M'.1 3 4 = nI (nvE x i (j - i))) r ?_ ?_ i M s1 ⟨q_fs.rf, h10, by rw [Nat.sub_self]; exact h4⟩ (Nat.le_refl _)
  · refine q_en q_ok (Nat.le_of_ble_eq_true rfl) rfl ?_
    exact W
  · rintro M' ⟨hf, e10, e4⟩ hij
    have g' := g.fs hf
    have e9 : M'.1 3 9 = nI i := (hf 3 9 rfl).1.trans h9
    have ex : q_G q_mt (L, xs, q_shp) E nX9_readNumber (d) 0 0 (q_Q (L, xs, q_shp) E Q) 89 [some (.ref 3)] [] M' := by
      refine w_at 90 [0, 89] ?_
      refine ⟨_, e10, ?_⟩
      refine ⟨_, e9, ?_⟩
      refine z_le ((r : Int) - i) 4 (fun z => ?_) (fun z => ?_)
      · refine ⟨_, rfl, ?_⟩
        refine hQ _ hf.s1 ?_ ?_ ?_
        · rw [q_si_s, if_pos (by omega)]
          rfl
        · rw [q_si_n (by omega)]
          exact e4
        · rw [q_si_n (by omega)]
          exact e10
      · refine ⟨_, rfl, ?_⟩
        refine hQ _ hf.s1 ?_ ?_ ?_
        · rw [q_si_s, if_neg (by omega)]
          rfl
        · rw [q_si_n (by omega)]
          exact e4
        · rw [q_si_n (by omega)]
          exact e10
    refine w_at 90 [0, 89] ?_
    refine ⟨_, e10, ?_⟩
    refine ⟨_, g'.1, ?_⟩
    refine z_le (len : Int) r (fun z => ex) (fun z => ?_)
    have ht := isDg_f.mp (s4 (by omega))
    have hb := g'.2.2 r (by omega)
    refine ⟨_, e10, ?_⟩
    refine ⟨r, _, by (first | assumption | (simp only [z_nat, z_lit, ← Int32.ofInt_add, ← Int32.ofInt_sub, ← Int32.ofInt_mul]; exact congrArg Int32.ofInt (by omega)) | (simp only [z_nat, z_lit, ← Int32.ofInt_add, ← Int32.ofInt_sub, ← Int32.ofInt_mul]; done) | exact congrArg Int32.ofInt (by omega) | rfl), by (dsimp only; omega), hb.1, ?_⟩
    refine z_lt (x r : Int) 48 (fun z => ex) (fun z => ?_)
    refine ⟨_, e10, ?_⟩
    refine ⟨r, _, by (first | assumption | (simp only [z_nat, z_lit, ← Int32.ofInt_add, ← Int32.ofInt_sub, ← Int32.ofInt_mul]; exact congrArg Int32.ofInt (by omega)) | (simp only [z_nat, z_lit, ← Int32.ofInt_add, ← Int32.ofInt_sub, ← Int32.ofInt_mul]; done) | exact congrArg Int32.ofInt (by omega) | rfl), by (dsimp only; omega), hb.1, ?_⟩
    exact z_lt 57 (x r : Int) (fun z => ex) (fun z => by omega)
  · rintro j M' hj ⟨hf, e10, e4⟩ ih hij
    have g' := g.fs hf
    have hb := g'.2.2 j (by omega)
    have e9 : M'.1 3 9 = nI i := (hf 3 9 rfl).1.trans h9
    have hd := dg j hij hj
    have nb := nvE_9 (x := x) (i := i) (k := j - i) (fun p hp => dg (i + p) (by omega) (by omega))
    have en : nvE x i (j + 1 - i) = if j - i < 4 then 10 * nvE x i (j - i) + (x j - 48) else nvE x i (j - i) := by
      rw [show j + 1 - i = (j - i) + 1 by omega]
      show (if j - i < 4 then 10 * nvE x i (j - i) + (x (i + (j - i)) - 48) else nvE x i (j - i)) = _
      rw [show i + (j - i) = j by omega]
    refine w_at 90 [0, 89] ?_
    refine ⟨_, e10, ?_⟩
    refine ⟨_, g'.1, ?_⟩
    refine z_le (len : Int) j (fun z => by omega) (fun z => ?_)
    refine ⟨_, e10, ?_⟩
    refine ⟨j, _, by (first | assumption | (simp only [z_nat, z_lit, ← Int32.ofInt_add, ← Int32.ofInt_sub, ← Int32.ofInt_mul]; exact congrArg Int32.ofInt (by omega)) | (simp only [z_nat, z_lit, ← Int32.ofInt_add, ← Int32.ofInt_sub, ← Int32.ofInt_mul]; done) | exact congrArg Int32.ofInt (by omega) | rfl), by (dsimp only; omega), hb.1, ?_⟩
    refine z_lt (x j : Int) 48 (fun z => by omega) (fun _ => ?_)
    refine ⟨_, e10, ?_⟩
    refine ⟨j, _, by (first | assumption | (simp only [z_nat, z_lit, ← Int32.ofInt_add, ← Int32.ofInt_sub, ← Int32.ofInt_mul]; exact congrArg Int32.ofInt (by omega)) | (simp only [z_nat, z_lit, ← Int32.ofInt_add, ← Int32.ofInt_sub, ← Int32.ofInt_mul]; done) | exact congrArg Int32.ofInt (by omega) | rfl), by (dsimp only; omega), hb.1, ?_⟩
    refine z_lt 57 (x j : Int) (fun z => by omega) (fun _ => ?_)
    refine ⟨_, e10, ?_⟩
    refine ⟨_, e9, ?_⟩
    refine z_le 4 ((j : Int) - i) (fun z => ?_) (fun z => ?_)
    · refine ⟨_, e10, ?_⟩
      refine ⟨_, rfl, ?_⟩
      refine ih _ ⟨hf.s1, ?_, ?_⟩ (by omega)
      · rw [q_si_s]
        (first | assumption | (simp only [z_nat, z_lit, ← Int32.ofInt_add, ← Int32.ofInt_sub, ← Int32.ofInt_mul]; exact congrArg Int32.ofInt (by omega)) | (simp only [z_nat, z_lit, ← Int32.ofInt_add, ← Int32.ofInt_sub, ← Int32.ofInt_mul]; done) | exact congrArg Int32.ofInt (by omega) | rfl)
      · rw [q_si_n (by omega), e4, en, if_neg (by omega)]
    · refine ⟨_, e4, ?_⟩
      refine ⟨_, e10, ?_⟩
      refine ⟨j, _, by (first | assumption | (simp only [z_nat, z_lit, ← Int32.ofInt_add, ← Int32.ofInt_sub, ← Int32.ofInt_mul]; exact congrArg Int32.ofInt (by omega)) | (simp only [z_nat, z_lit, ← Int32.ofInt_add, ← Int32.ofInt_sub, ← Int32.ofInt_mul]; done) | exact congrArg Int32.ofInt (by omega) | rfl), by (dsimp only; omega), hb.1, ?_⟩
      refine ⟨_, rfl, ?_⟩
      refine ⟨_, e10, ?_⟩
      refine ⟨_, rfl, ?_⟩
      refine ih _ ⟨hf.s1.s1, ?_, ?_⟩ (by omega)
      · rw [q_si_s]
        (first | assumption | (simp only [z_nat, z_lit, ← Int32.ofInt_add, ← Int32.ofInt_sub, ← Int32.ofInt_mul]; exact congrArg Int32.ofInt (by omega)) | (simp only [z_nat, z_lit, ← Int32.ofInt_add, ← Int32.ofInt_sub, ← Int32.ofInt_mul]; done) | exact congrArg Int32.ofInt (by omega) | rfl)
      · rw [q_si_n (by omega), q_si_s, en, if_pos (by omega)]
        (first | assumption | (simp only [z_nat, z_lit, ← Int32.ofInt_add, ← Int32.ofInt_sub, ← Int32.ofInt_mul]; exact congrArg Int32.ofInt (by omega)) | (simp only [z_nat, z_lit, ← Int32.ofInt_add, ← Int32.ofInt_sub, ← Int32.ofInt_mul]; done) | exact congrArg Int32.ofInt (by omega) | rfl)
end TK
