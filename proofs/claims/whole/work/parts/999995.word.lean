/-! words as the class reads them -/
/-- the words of the language -/
def lxS : List (List Nat) := [[114, 111, 117, 110, 100, 115], [100, 114, 111, 112], [106, 117, 100, 103, 101], [108, 97, 110, 100], [102, 105, 114, 115, 116], [115, 101, 99, 111, 110, 100], [116, 111, 103, 101, 116, 104, 101, 114], [100, 105, 118, 101], [103, 114, 111, 117, 112], [100, 101, 103, 114, 101, 101], [100, 105, 118, 101, 114], [112, 97, 105, 114], [108, 105, 115, 116], [102, 111, 114, 109], [108, 97, 119], [99, 117, 116], [109, 111, 115, 116], [97, 110, 101, 119], [111, 114], [97, 110, 100], [110, 111, 116], [114, 111, 117, 110, 100], [115, 117, 109], [115, 101, 101, 110], [117, 110, 108, 105, 107, 101], [116, 105, 109, 101, 115], [109, 97, 114, 107, 115], [97, 108, 108], [98, 97, 108, 107], [99, 97, 112], [104, 97, 108, 102], [102, 97, 105, 108], [103, 105, 118, 101], [111, 117, 116]]
def lx (w p : Nat) : Nat := (lxS.getD w []).getD p 0
def lxK (w : Nat) : Nat := (lxS.getD w []).length
theorem lx_b : ∀ w, w < 34 → w5E (lx w) 0 (lxK w) < 1152921504606846976 := by decide +kernel
theorem lx_8 : ∀ w, w < 34 → 1 ≤ lxK w ∧ lxK w ≤ 8 := by decide +kernel
theorem lx_l : ∀ w, w < 34 → ∀ p, p < 8 → p < lxK w → 97 ≤ lx w (0 + p) ∧ lx w (0 + p) ≤ 122 := by decide +kernel
theorem lx_un : ∀ w, w < 34 → ∀ v, v < 34 → w5E (lx w) 0 (lxK w) = w5E (lx v) 0 (lxK v) → w = v := by decide +kernel
theorem y_inj {a b : Nat} (ha : a < 9223372036854775808) (hb : b < 9223372036854775808) : Int64.ofInt (a : Int) = Int64.ofInt (b : Int) ↔ a = b := by
  rw [← Int64.toInt_inj, y_toInt (by omega), y_toInt (by omega)]
  omega
theorem y_sh5 (v : Int64) : v <<< ((Int32.ofInt 5).toInt64 &&& 63) = v * Int64.ofInt 32 := by
  apply Int64.toBitVec_inj.mp
  rw [Int64.toBitVec_mul, Int64.toBitVec_shiftLeft, show (((Int32.ofInt 5).toInt64 &&& 63).toBitVec.smod 64) = 5#64 by decide]
  rw [BitVec.shiftLeft_eq', BitVec.shiftLeft_eq_mul_twoPow]
  rfl
theorem y_sh8 (v : Int64) : v <<< ((Int32.ofInt 8).toInt64 &&& 63) = v * Int64.ofInt 256 := by
  apply Int64.toBitVec_inj.mp
  rw [Int64.toBitVec_mul, Int64.toBitVec_shiftLeft, show (((Int32.ofInt 8).toInt64 &&& 63).toBitVec.smod 64) = 8#64 by decide]
  rw [BitVec.shiftLeft_eq', BitVec.shiftLeft_eq_mul_twoPow]
  rfl
/-- the row of letters is the word w -/
def isW (x : Nat → Nat) (i k w : Nat) : Prop := w < 34 ∧ w5E (lx w) 0 (lxK w) = w5E x i k
theorem isW.un {x : Nat → Nat} {i k w v : Nat} (h : isW x i k w) (h' : isW x i k v) : w = v := lx_un w h.1 v h'.1 (h.2.trans h'.2.symm)
def g_lx (M : q_M) : Prop := ∀ w, w < 34 → M.2 5 w = Int64.ofInt (w5E (lx w) 0 (lxK w) : Nat)
section RW
variable {L : Nat} {xs : Nat → Int32} {E : q_E} {d : Nat} {M : q_M} {t : q_T} {n : sN} {Q : Option Value → q_M → Prop} {P : q_M → Prop}
variable {x : Nat → Nat} {len : Nat}
abbrev fW : List (Nat × Nat) := [(3, 3), (3, 4), (3, 5), (3, 10)]
theorem w5E_60 {x : Nat → Nat} {i k : Nat} (h : ∀ p, p < k → 97 ≤ x (i + p) ∧ x (i + p) ≤ 122) : w5E x i k < 1152921504606846976 := by
  have a := w5E_b h
  have b : 32 ^ (min k 12) ≤ 32 ^ 12 := Nat.pow_le_pow_right (by decide) (by omega)
  omega
set_option maxRecDepth 100000 in
set_option maxHeartbeats 4000000 in
theorem k2_readWord (g : g_tx M x len) (gl : g_lx M) {i : Nat} (hi : i ≤ len) (h9 : M.1 3 9 = nI i) (h10 : M.1 3 10 = nI i) (h4 : M.1 3 4 = Int32.ofInt 0) (hQ : ∀ M' r, r = rnE isLt x (len - i) i → q_fs [] fW M M' → M'.2 3 5 = Int64.ofInt (w5E x i (r - i) : Nat) → M'.1 3 10 = nI r → ((∃ w, isW x i (r - i) w ∧ M'.1 3 3 = Int32.ofInt 1 ∧ M'.1 3 4 = nI w) ∨ ((∀ w, ¬ isW x i (r - i) w) ∧ M'.1 3 3 = nI (if r - i ≤ 7 then 2 else 5) ∧ M'.1 3 4 = Int32.ofInt 0)) → Q none M') : q_C q_mt (L, xs, q_shp) E nX9_readWord (d) 0 0 [.ref 3] M Q := by
  obtain ⟨s1, s2, s3, s4⟩ := rnE_s (f := isLt) (x := x) (k := len - i) (i := i)
  have hl := g.2.1
  have hQ := fun M' => hQ M' _ rfl
  revert s1 s2 s3 s4 hQ
  generalize rnE isLt x (len - i) i = r
  intro s1 s2 s3 s4 hQ
  have lt : ∀ j, i ≤ j → j < r → 97 ≤ x j ∧ x j ≤ 122 := fun j h1 h2 => isLt_t.mp (s3 j h1 h2)
  have wr := w5E_60 (x := x) (i := i) (k := r - i) (fun p hp => lt (i + p) (by omega) (by omega))
  -- which word it is
  have W2 : ∀ M1, q_fs [] fW M M1 → M1.2 3 5 = Int64.ofInt (w5E x i (r - i) : Nat) → M1.1 3 10 = nI r → M1.1 3 3 = nI (if r - i ≤ 7 then 2 else 5) → M1.1 3 4 = Int32.ofInt 0 → ∀ v, v = nI 0 → q_G q_mt (L, xs, q_shp) E nX9_readWord (d) 0 0 (q_Q (L, xs, q_shp) E Q) 123 [some (.ref 3), some (.int (v))] [] M1 := by
    intro M1 hf1 e5 e10 e3 e4
    refine lp_m (W := fun w M' => ∀ v, v = nI w → q_G q_mt (L, xs, q_shp) E nX9_readWord (d) 0 0 (q_Q (L, xs, q_shp) E Q) 123 [some (.ref 3), some (.int (v))] [] M') (J := fun w M' => q_fs [] fW M M' ∧ M'.2 3 5 = Int64.ofInt (w5E x i (r - i) : Nat) ∧ M'.1 3 10 = nI r ∧ ((∃ v, v < w ∧ isW x i (r - i) v ∧ M'.1 3 3 = Int32.ofInt 1 ∧ M'.1 3 4 = nI v) ∨ ((∀ v, v < w → ¬ isW x i (r - i) v) ∧ M'.1 3 3 = nI (if r - i ≤ 7 then 2 else 5) ∧ M'.1 3 4 = Int32.ofInt 0))) 34 ?_ ?_ 0 M1 (Nat.zero_le _) ⟨hf1, e5, e10, Or.inr ⟨fun v hv => absurd hv (Nat.not_lt_zero _), e3, e4⟩⟩
    · rintro M' ⟨hf, f5, f10, hc⟩ v rfl
      refine w_at 90 [5, 98, 123] ?_
      refine z_le 34 (34 : Nat) (fun _ => hQ M' hf f5 f10 ?_) (fun z => by omega)
      rcases hc with ⟨v, hv, h1, h2, h3⟩ | ⟨h1, h2, h3⟩
      · exact Or.inl ⟨v, h1, h2, h3⟩
      · exact Or.inr ⟨fun w hw => h1 w hw.1 hw, h2, h3⟩
    · rintro w M' hw ⟨hf, f5, f10, hc⟩ ih v rfl
      have ew : M'.2 5 w = Int64.ofInt (w5E (lx w) 0 (lxK w) : Nat) := (hf 5 w rfl).2.trans (gl w hw)
      have lb := lx_b w hw
      refine w_at 90 [5, 98, 123] ?_
      refine z_le 34 (w : Int) (fun z => by omega) (fun _ => ?_)
      refine ⟨w, _, by (first | assumption | (simp only [z_nat, z_lit, ← Int32.ofInt_add, ← Int32.ofInt_sub, ← Int32.ofInt_mul]; exact congrArg Int32.ofInt (by omega)) | (simp only [z_nat, z_lit, ← Int32.ofInt_add, ← Int32.ofInt_sub, ← Int32.ofInt_mul]; done) | exact congrArg Int32.ofInt (by omega) | rfl), by (dsimp only; omega), ew, ?_⟩
      refine ⟨_, f5, ?_⟩
      refine ⟨fun z => ?_, fun z => ?_⟩
      · have z : ¬ isW x i (r - i) w := fun y => z ((lg_cmp_eq _ _).mpr ((y_inj (by omega) (by omega)).mpr y.2))
        refine ih _ ⟨hf, f5, f10, ?_⟩ _ (by (first | assumption | (simp only [z_nat, z_lit, ← Int32.ofInt_add, ← Int32.ofInt_sub, ← Int32.ofInt_mul]; exact congrArg Int32.ofInt (by omega)) | (simp only [z_nat, z_lit, ← Int32.ofInt_add, ← Int32.ofInt_sub, ← Int32.ofInt_mul]; done) | exact congrArg Int32.ofInt (by omega) | rfl))
        rcases hc with ⟨v, hv, h1, h2, h3⟩ | ⟨h1, h2, h3⟩
        · exact Or.inl ⟨v, by omega, h1, h2, h3⟩
        · refine Or.inr ⟨fun v hv y => ?_, h2, h3⟩
          by_cases q : v = w
          · exact z (q ▸ y)
          · exact h1 v (by omega) y
      · have z : isW x i (r - i) w := ⟨hw, (y_inj (by omega) (by omega)).mp ((lg_cmp_eq _ _).mp z)⟩
        refine ⟨_, rfl, ?_⟩
        refine ⟨_, rfl, ?_⟩
        refine ih _ ⟨hf.s1.s1, f5, ?_, Or.inl ⟨w, by omega, z, ?_, ?_⟩⟩ _ (by (first | assumption | (simp only [z_nat, z_lit, ← Int32.ofInt_add, ← Int32.ofInt_sub, ← Int32.ofInt_mul]; exact congrArg Int32.ofInt (by omega)) | (simp only [z_nat, z_lit, ← Int32.ofInt_add, ← Int32.ofInt_sub, ← Int32.ofInt_mul]; done) | exact congrArg Int32.ofInt (by omega) | rfl))
        · rw [q_si_n (by omega), q_si_n (by omega)]
          exact f10
        · rw [q_si_n (by omega), q_si_s]
        · rw [q_si_s]
  have W := lp_m (W := fun j M' => i ≤ j → ∀ l1, q_G q_mt (L, xs, q_shp) E nX9_readWord (d) 0 0 (q_Q (L, xs, q_shp) E Q) 5 [some (.ref 3), l1] [] M') (J := fun j M' => q_fs [] fW M M' ∧ M'.1 3 10 = nI j ∧ M'.2 3 5 = Int64.ofInt (w5E x i (j - i) : Nat) ∧ M'.1 3 4 = Int32.ofInt 0) r ?_ ?_ i
  · refine w_in 90 [5, 98, 123] ?_
    refine ⟨_, rfl, ?_⟩
    exact W _ s1 ⟨q_fs.rf.s2, h10, by rw [q_sl_s, Nat.sub_self]; rfl, h4⟩ (Nat.le_refl _) _
  · rintro M' ⟨hf, e10, e5, e4⟩ hij l1
    have g' := g.fs hf
    have e9 : M'.1 3 9 = nI i := (hf 3 9 rfl).1.trans h9
    have ex : q_G q_mt (L, xs, q_shp) E nX9_readWord (d) 0 0 (q_Q (L, xs, q_shp) E Q) 98 [some (.ref 3), l1] [] M' := by
      refine w_at 90 [5, 98, 123] ?_
      refine ⟨_, e10, ?_⟩
      refine ⟨_, e9, ?_⟩
      refine z_le ((r : Int) - i) 7 (fun z => ?_) (fun z => ?_)
      · refine ⟨_, rfl, ?_⟩
        refine W2 _ hf.s1 e5 ?_ ?_ ?_ _ rfl
        · rw [q_si_n (by omega)]
          exact e10
        · rw [q_si_s, if_pos (by omega)]
          rfl
        · rw [q_si_n (by omega)]
          exact e4
      · refine ⟨_, rfl, ?_⟩
        refine W2 _ hf.s1 e5 ?_ ?_ ?_ _ rfl
        · rw [q_si_n (by omega)]
          exact e10
        · rw [q_si_s, if_neg (by omega)]
          rfl
        · rw [q_si_n (by omega)]
          exact e4
    refine w_at 90 [5, 98, 123] ?_
    refine ⟨_, e10, ?_⟩
    refine ⟨_, g'.1, ?_⟩
    refine z_le (len : Int) r (fun z => ex) (fun z => ?_)
    have ht := isLt_f.mp (s4 (by omega))
    have hb := g'.2.2 r (by omega)
    refine ⟨_, e10, ?_⟩
    refine ⟨r, _, by (first | assumption | (simp only [z_nat, z_lit, ← Int32.ofInt_add, ← Int32.ofInt_sub, ← Int32.ofInt_mul]; exact congrArg Int32.ofInt (by omega)) | (simp only [z_nat, z_lit, ← Int32.ofInt_add, ← Int32.ofInt_sub, ← Int32.ofInt_mul]; done) | exact congrArg Int32.ofInt (by omega) | rfl), by (dsimp only; omega), hb.1, ?_⟩
    refine z_lt (x r : Int) 97 (fun z => ex) (fun z => ?_)
    refine ⟨_, e10, ?_⟩
    refine ⟨r, _, by (first | assumption | (simp only [z_nat, z_lit, ← Int32.ofInt_add, ← Int32.ofInt_sub, ← Int32.ofInt_mul]; exact congrArg Int32.ofInt (by omega)) | (simp only [z_nat, z_lit, ← Int32.ofInt_add, ← Int32.ofInt_sub, ← Int32.ofInt_mul]; done) | exact congrArg Int32.ofInt (by omega) | rfl), by (dsimp only; omega), hb.1, ?_⟩
    exact z_lt 122 (x r : Int) (fun z => ex) (fun z => by omega)
  · rintro j M' hj ⟨hf, e10, e5, e4⟩ ih hij l1
    have g' := g.fs hf
    have e9 : M'.1 3 9 = nI i := (hf 3 9 rfl).1.trans h9
    have hb := g'.2.2 j (by omega)
    have hd := lt j hij hj
    have wb := w5E_60 (x := x) (i := i) (k := j - i) (fun p hp => lt (i + p) (by omega) (by omega))
    have en : w5E x i (j + 1 - i) = if j - i < 12 then 32 * w5E x i (j - i) + (x j - 96) else w5E x i (j - i) := by
      rw [show j + 1 - i = (j - i) + 1 by omega]
      show (if j - i < 12 then 32 * w5E x i (j - i) + (x (i + (j - i)) - 96) else w5E x i (j - i)) = _
      rw [show i + (j - i) = j by omega]
    refine w_at 90 [5, 98, 123] ?_
    refine ⟨_, e10, ?_⟩
    refine ⟨_, g'.1, ?_⟩
    refine z_le (len : Int) j (fun z => by omega) (fun z => ?_)
    refine ⟨_, e10, ?_⟩
    refine ⟨j, _, by (first | assumption | (simp only [z_nat, z_lit, ← Int32.ofInt_add, ← Int32.ofInt_sub, ← Int32.ofInt_mul]; exact congrArg Int32.ofInt (by omega)) | (simp only [z_nat, z_lit, ← Int32.ofInt_add, ← Int32.ofInt_sub, ← Int32.ofInt_mul]; done) | exact congrArg Int32.ofInt (by omega) | rfl), by (dsimp only; omega), hb.1, ?_⟩
    refine z_lt (x j : Int) 97 (fun z => by omega) (fun _ => ?_)
    refine ⟨_, e10, ?_⟩
    refine ⟨j, _, by (first | assumption | (simp only [z_nat, z_lit, ← Int32.ofInt_add, ← Int32.ofInt_sub, ← Int32.ofInt_mul]; exact congrArg Int32.ofInt (by omega)) | (simp only [z_nat, z_lit, ← Int32.ofInt_add, ← Int32.ofInt_sub, ← Int32.ofInt_mul]; done) | exact congrArg Int32.ofInt (by omega) | rfl), by (dsimp only; omega), hb.1, ?_⟩
    refine z_lt 122 (x j : Int) (fun z => by omega) (fun _ => ?_)
    refine ⟨_, e10, ?_⟩
    refine ⟨_, e9, ?_⟩
    refine z_le 12 ((j : Int) - i) (fun z => ?_) (fun z => ?_)
    · refine ⟨_, e10, ?_⟩
      refine ⟨_, rfl, ?_⟩
      refine ih _ ⟨hf.s1, ?_, ?_, ?_⟩ (by omega) _
      · rw [q_si_s]
        (first | assumption | (simp only [z_nat, z_lit, ← Int32.ofInt_add, ← Int32.ofInt_sub, ← Int32.ofInt_mul]; exact congrArg Int32.ofInt (by omega)) | (simp only [z_nat, z_lit, ← Int32.ofInt_add, ← Int32.ofInt_sub, ← Int32.ofInt_mul]; done) | exact congrArg Int32.ofInt (by omega) | rfl)
      · rw [en, if_neg (by omega)]
        exact e5
      · rw [q_si_n (by omega)]
        exact e4
    · refine ⟨_, e5, ?_⟩
      refine ⟨_, e10, ?_⟩
      refine ⟨j, _, by (first | assumption | (simp only [z_nat, z_lit, ← Int32.ofInt_add, ← Int32.ofInt_sub, ← Int32.ofInt_mul]; exact congrArg Int32.ofInt (by omega)) | (simp only [z_nat, z_lit, ← Int32.ofInt_add, ← Int32.ofInt_sub, ← Int32.ofInt_mul]; done) | exact congrArg Int32.ofInt (by omega) | rfl), by (dsimp only; omega), hb.1, ?_⟩
      refine ⟨_, rfl, ?_⟩
      refine ⟨_, e10, ?_⟩
      refine ⟨_, rfl, ?_⟩
      refine ih _ ⟨hf.s2.s1, ?_, ?_, ?_⟩ (by omega) _
      · rw [q_si_s]
        (first | assumption | (simp only [z_nat, z_lit, ← Int32.ofInt_add, ← Int32.ofInt_sub, ← Int32.ofInt_mul]; exact congrArg Int32.ofInt (by omega)) | (simp only [z_nat, z_lit, ← Int32.ofInt_add, ← Int32.ofInt_sub, ← Int32.ofInt_mul]; done) | exact congrArg Int32.ofInt (by omega) | rfl)
      · refine Eq.trans (q_sl_s (M := M') (r := 3) (i := 5)) ?_
        rw [en, if_pos (by omega), y_sh5, z_nat, y_i2l (by omega)]
        show Int64.ofInt _ * Int64.ofInt 32 + Int64.ofInt _ - Int64.ofInt 97 + Int64.ofInt 1 = _
        rw [← Int64.ofInt_mul, ← Int64.ofInt_add, ← Int64.ofInt_sub, ← Int64.ofInt_add]
        exact congrArg Int64.ofInt (by omega)
      · rw [q_si_n (by omega)]
        exact e4
end RW
