/-! tokens as the reference cuts them: words and numbers -/
theorem y_or8 {w b : Nat} (hb : b < 256) : Int64.ofInt ((256 * w : Nat) : Int) ||| Int64.ofInt (b : Int) = Int64.ofInt ((256 * w + b : Nat) : Int) := by
  have h : 256 * w + b = 256 * w ||| b := Nat.two_pow_add_eq_or_of_lt (i := 8) (b := b) hb w
  apply Int64.toBitVec_inj.mp
  rw [Int64.toBitVec_or]
  show BitVec.ofInt 64 _ ||| BitVec.ofInt 64 _ = BitVec.ofInt 64 _
  rw [BitVec.ofInt_natCast, BitVec.ofInt_natCast, BitVec.ofInt_natCast]
  apply BitVec.eq_of_toNat_eq
  rw [BitVec.toNat_or, BitVec.toNat_ofNat, BitVec.toNat_ofNat, BitVec.toNat_ofNat, ← Nat.or_mod_two_pow, h]
section SP
variable {L : Nat} {xs : Nat → Int32} {E : q_E} {d : Nat} {M : q_M} {t : q_T} {n : sN} {Q : Option Value → q_M → Prop} {P : q_M → Prop}
variable {x : Nat → Nat} {len : Nat}
/-- the reference's text -/
def g_ty (M : q_M) (x : Nat → Nat) (len : Nat) : Prop := len ≤ 1200 ∧ ∀ i, i < len → M.1 272 i = nI (x i) ∧ x i < 256
set_option maxRecDepth 100000 in
set_option maxHeartbeats 4000000 in
theorem k_isLetter {a : Int32} (b : Nat) (hb : b < 256) (h1 : isLt b = true → Q (some (.int 1)) M) (h0 : isLt b = false → Q (some (.int 0)) M) (ha : a = nI b := by (first | assumption | (simp only [z_nat, z_lit, ← Int32.ofInt_add, ← Int32.ofInt_sub, ← Int32.ofInt_mul]; exact congrArg Int32.ofInt (by omega)) | (simp only [z_nat, z_lit, ← Int32.ofInt_add, ← Int32.ofInt_sub, ← Int32.ofInt_mul]; done) | exact congrArg Int32.ofInt (by omega) | rfl)) : q_C q_mt (L, xs, q_shp) E nX12_isLetter (d) 0 0 [.int (a)] M Q := by
  subst ha
  refine w_in 90 [] ?_
  refine z_lt (b : Int) 97 (fun z => ⟨z_0, h0 (isLt_f.mpr (by omega))⟩) (fun z => ?_)
  exact z_lt 122 (b : Int) (fun y => ⟨z_0, h0 (isLt_f.mpr (by omega))⟩) (fun y => ⟨z_1, h1 (isLt_t.mpr (by omega))⟩)
set_option maxRecDepth 100000 in
set_option maxHeartbeats 4000000 in
theorem k_isDigit {a : Int32} (b : Nat) (hb : b < 256) (h1 : isDg b = true → Q (some (.int 1)) M) (h0 : isDg b = false → Q (some (.int 0)) M) (ha : a = nI b := by (first | assumption | (simp only [z_nat, z_lit, ← Int32.ofInt_add, ← Int32.ofInt_sub, ← Int32.ofInt_mul]; exact congrArg Int32.ofInt (by omega)) | (simp only [z_nat, z_lit, ← Int32.ofInt_add, ← Int32.ofInt_sub, ← Int32.ofInt_mul]; done) | exact congrArg Int32.ofInt (by omega) | rfl)) : q_C q_mt (L, xs, q_shp) E nX12_isDigit (d) 0 0 [.int (a)] M Q := by
  subst ha
  refine w_in 90 [] ?_
  refine z_lt (b : Int) 48 (fun z => ⟨z_0, h0 (isDg_f.mpr (by omega))⟩) (fun z => ?_)
  exact z_lt 57 (b : Int) (fun y => ⟨z_0, h0 (isDg_f.mpr (by omega))⟩) (fun y => ⟨z_1, h1 (isDg_t.mpr (by omega))⟩)
set_option maxRecDepth 100000 in
set_option maxHeartbeats 4000000 in
theorem k_numberFrom (g : g_ty M x len) {a b : Int32} (i c : Nat) (hi : i ≤ len) (h7 : M.1 271 7 = nI c) (hc : c ≤ 1200) (hQ : ∀ r, r = rnE isDg x (len - i) i → Q (some (.int (nI r))) (q_si (q_si M 273 c (nI (if r - i ≤ 4 then 2 else 4))) 275 c (nI (nvE x i (r - i))))) (ha : a = nI i := by (first | assumption | (simp only [z_nat, z_lit, ← Int32.ofInt_add, ← Int32.ofInt_sub, ← Int32.ofInt_mul]; exact congrArg Int32.ofInt (by omega)) | (simp only [z_nat, z_lit, ← Int32.ofInt_add, ← Int32.ofInt_sub, ← Int32.ofInt_mul]; done) | exact congrArg Int32.ofInt (by omega) | rfl)) (hb : b = nI len := by (first | assumption | (simp only [z_nat, z_lit, ← Int32.ofInt_add, ← Int32.ofInt_sub, ← Int32.ofInt_mul]; exact congrArg Int32.ofInt (by omega)) | (simp only [z_nat, z_lit, ← Int32.ofInt_add, ← Int32.ofInt_sub, ← Int32.ofInt_mul]; done) | exact congrArg Int32.ofInt (by omega) | rfl)) : q_C q_mt (L, xs, q_shp) E nX12_numberFrom (d + 1) 0 0 [.ref 271, .int (a), .int (b)] M Q := by
  subst ha hb
  obtain ⟨s1, s2, s3, s4⟩ := rnE_s (f := isDg) (x := x) (k := len - i) (i := i)
  have hl := g.1
  have hQ := hQ _ rfl
  revert s1 s2 s3 s4 hQ
  generalize rnE isDg x (len - i) i = r
  intro s1 s2 s3 s4 hQ
  have dg : ∀ j, i ≤ j → j < r → 48 ≤ x j ∧ x j ≤ 57 := fun j h1 h2 => isDg_t.mp (s3 j h1 h2)
  have W := lp_up (W := fun j => i ≤ j → ∀ u v, u = nI j → v = nI (nvE x i (j - i)) → q_G q_mt (L, xs, q_shp) E nX12_numberFrom (d + 1) 0 0 (q_Q (L, xs, q_shp) E Q) 5 [some (.ref 271), some (.int (nI i)), some (.int (nI len)), some (.int (u)), some (.int (v))] [] M) r ?_ ?_ i s1 (Nat.le_refl _)
  · refine w_in 90 [5, 57] ?_
    exact W _ _ rfl (by rw [Nat.sub_self]; rfl)
  · rintro hij u v rfl rfl
    have ex : q_G q_mt (L, xs, q_shp) E nX12_numberFrom (d + 1) 0 0 (q_Q (L, xs, q_shp) E Q) 57 [some (.ref 271), some (.int (nI i)), some (.int (nI len)), some (.int (nI r)), some (.int (nI (nvE x i (r - i))))] [] M := by
      refine w_at 90 [5, 57] ?_
      refine ⟨_, h7, ?_⟩
      refine z_le ((r : Int) - i) 4 (fun z => ?_) (fun z => ?_)
      · rw [if_pos (show r - i ≤ 4 by omega)] at hQ
        refine ⟨c, _, by (first | assumption | (simp only [z_nat, z_lit, ← Int32.ofInt_add, ← Int32.ofInt_sub, ← Int32.ofInt_mul]; exact congrArg Int32.ofInt (by omega)) | (simp only [z_nat, z_lit, ← Int32.ofInt_add, ← Int32.ofInt_sub, ← Int32.ofInt_mul]; done) | exact congrArg Int32.ofInt (by omega) | rfl), by (dsimp only; omega), rfl, ?_⟩
        refine ⟨_, h7, ?_⟩
        refine ⟨c, _, by (first | assumption | (simp only [z_nat, z_lit, ← Int32.ofInt_add, ← Int32.ofInt_sub, ← Int32.ofInt_mul]; exact congrArg Int32.ofInt (by omega)) | (simp only [z_nat, z_lit, ← Int32.ofInt_add, ← Int32.ofInt_sub, ← Int32.ofInt_mul]; done) | exact congrArg Int32.ofInt (by omega) | rfl), by (dsimp only; omega), rfl, ?_⟩
        exact ⟨_, rfl, hQ⟩
      · rw [if_neg (show ¬ r - i ≤ 4 by omega)] at hQ
        refine ⟨c, _, by (first | assumption | (simp only [z_nat, z_lit, ← Int32.ofInt_add, ← Int32.ofInt_sub, ← Int32.ofInt_mul]; exact congrArg Int32.ofInt (by omega)) | (simp only [z_nat, z_lit, ← Int32.ofInt_add, ← Int32.ofInt_sub, ← Int32.ofInt_mul]; done) | exact congrArg Int32.ofInt (by omega) | rfl), by (dsimp only; omega), rfl, ?_⟩
        refine ⟨_, h7, ?_⟩
        refine ⟨c, _, by (first | assumption | (simp only [z_nat, z_lit, ← Int32.ofInt_add, ← Int32.ofInt_sub, ← Int32.ofInt_mul]; exact congrArg Int32.ofInt (by omega)) | (simp only [z_nat, z_lit, ← Int32.ofInt_add, ← Int32.ofInt_sub, ← Int32.ofInt_mul]; done) | exact congrArg Int32.ofInt (by omega) | rfl), by (dsimp only; omega), rfl, ?_⟩
        exact ⟨_, rfl, hQ⟩
    refine w_at 90 [5, 57] ?_
    refine z_le (len : Int) r (fun z => ex) (fun z => ?_)
    have ht := s4 (by omega)
    have hb := g.2 r (by omega)
    refine ⟨r, _, by (first | assumption | (simp only [z_nat, z_lit, ← Int32.ofInt_add, ← Int32.ofInt_sub, ← Int32.ofInt_mul]; exact congrArg Int32.ofInt (by omega)) | (simp only [z_nat, z_lit, ← Int32.ofInt_add, ← Int32.ofInt_sub, ← Int32.ofInt_mul]; done) | exact congrArg Int32.ofInt (by omega) | rfl), by (dsimp only; omega), hb.1, ?_⟩
    exact k_isDigit (x r) hb.2 (fun z => absurd (ht.symm.trans z) (by decide)) (fun _ => br_t (by decide) ex)
  · rintro j hj ih hij u v rfl rfl
    have hb := g.2 j (by omega)
    have hd := dg j hij hj
    have nb := nvE_9 (x := x) (i := i) (k := j - i) (fun p hp => dg (i + p) (by omega) (by omega))
    have en : nvE x i (j + 1 - i) = if j - i < 4 then 10 * nvE x i (j - i) + (x j - 48) else nvE x i (j - i) := by
      rw [show j + 1 - i = (j - i) + 1 by omega]
      show (if j - i < 4 then 10 * nvE x i (j - i) + (x (i + (j - i)) - 48) else nvE x i (j - i)) = _
      rw [show i + (j - i) = j by omega]
    refine w_at 90 [5, 57] ?_
    refine z_le (len : Int) j (fun z => by omega) (fun z => ?_)
    refine ⟨j, _, by (first | assumption | (simp only [z_nat, z_lit, ← Int32.ofInt_add, ← Int32.ofInt_sub, ← Int32.ofInt_mul]; exact congrArg Int32.ofInt (by omega)) | (simp only [z_nat, z_lit, ← Int32.ofInt_add, ← Int32.ofInt_sub, ← Int32.ofInt_mul]; done) | exact congrArg Int32.ofInt (by omega) | rfl), by (dsimp only; omega), hb.1, ?_⟩
    refine k_isDigit (x j) hb.2 (fun _ => br_f (by decide) ?_) (fun z => absurd (z.symm.trans (s3 j hij hj)) (by decide))
    refine z_le 4 ((j : Int) - i) (fun z => ?_) (fun z => ?_)
    · exact ih (by omega) _ _ (by (first | assumption | (simp only [z_nat, z_lit, ← Int32.ofInt_add, ← Int32.ofInt_sub, ← Int32.ofInt_mul]; exact congrArg Int32.ofInt (by omega)) | (simp only [z_nat, z_lit, ← Int32.ofInt_add, ← Int32.ofInt_sub, ← Int32.ofInt_mul]; done) | exact congrArg Int32.ofInt (by omega) | rfl)) (by rw [en, if_neg (by omega)])
    · refine ⟨j, _, by (first | assumption | (simp only [z_nat, z_lit, ← Int32.ofInt_add, ← Int32.ofInt_sub, ← Int32.ofInt_mul]; exact congrArg Int32.ofInt (by omega)) | (simp only [z_nat, z_lit, ← Int32.ofInt_add, ← Int32.ofInt_sub, ← Int32.ofInt_mul]; done) | exact congrArg Int32.ofInt (by omega) | rfl), by (dsimp only; omega), hb.1, ?_⟩
      refine ih (by omega) _ _ (by (first | assumption | (simp only [z_nat, z_lit, ← Int32.ofInt_add, ← Int32.ofInt_sub, ← Int32.ofInt_mul]; exact congrArg Int32.ofInt (by omega)) | (simp only [z_nat, z_lit, ← Int32.ofInt_add, ← Int32.ofInt_sub, ← Int32.ofInt_mul]; done) | exact congrArg Int32.ofInt (by omega) | rfl)) ?_
      rw [en, if_pos (by omega)]
      (first | assumption | (simp only [z_nat, z_lit, ← Int32.ofInt_add, ← Int32.ofInt_sub, ← Int32.ofInt_mul]; exact congrArg Int32.ofInt (by omega)) | (simp only [z_nat, z_lit, ← Int32.ofInt_add, ← Int32.ofInt_sub, ← Int32.ofInt_mul]; done) | exact congrArg Int32.ofInt (by omega) | rfl)
set_option maxRecDepth 100000 in
set_option maxHeartbeats 4000000 in
theorem k_wordFrom (g : g_ty M x len) {a b : Int32} (i c : Nat) (hi : i ≤ len) (h7 : M.1 271 7 = nI c) (hc : c ≤ 1200) (hQ : ∀ r, r = rnE isLt x (len - i) i → Q (some (.int (nI r))) (q_si (q_sl (q_si M 273 c (Int32.ofInt 1)) 276 c (Int64.ofInt (w8E x i (r - i) : Nat))) 277 c (nI (r - i)))) (ha : a = nI i := by (first | assumption | (simp only [z_nat, z_lit, ← Int32.ofInt_add, ← Int32.ofInt_sub, ← Int32.ofInt_mul]; exact congrArg Int32.ofInt (by omega)) | (simp only [z_nat, z_lit, ← Int32.ofInt_add, ← Int32.ofInt_sub, ← Int32.ofInt_mul]; done) | exact congrArg Int32.ofInt (by omega) | rfl)) (hb : b = nI len := by (first | assumption | (simp only [z_nat, z_lit, ← Int32.ofInt_add, ← Int32.ofInt_sub, ← Int32.ofInt_mul]; exact congrArg Int32.ofInt (by omega)) | (simp only [z_nat, z_lit, ← Int32.ofInt_add, ← Int32.ofInt_sub, ← Int32.ofInt_mul]; done) | exact congrArg Int32.ofInt (by omega) | rfl)) : q_C q_mt (L, xs, q_shp) E nX12_wordFrom (d + 1) 0 0 [.ref 271, .int (a), .int (b)] M Q := by
  subst ha hb
  obtain ⟨s1, s2, s3, s4⟩ := rnE_s (f := isLt) (x := x) (k := len - i) (i := i)
  have hl := g.1
  have hQ := hQ _ rfl
  revert s1 s2 s3 s4 hQ
  generalize rnE isLt x (len - i) i = r
  intro s1 s2 s3 s4 hQ
  have lt : ∀ j, i ≤ j → j < r → 97 ≤ x j ∧ x j ≤ 122 := fun j h1 h2 => isLt_t.mp (s3 j h1 h2)
  have es : ∀ j, i ≤ j → w8E x i (j + 1 - i) = if j - i < 8 then 256 * w8E x i (j - i) + x j else 0 := fun j hij => by
    rw [show j + 1 - i = (j - i) + 1 by omega]
    show (if j - i < 8 then 256 * w8E x i (j - i) + x (i + (j - i)) else 0) = _
    rw [show i + (j - i) = j by omega]
  have W := lp_up (W := fun j => i ≤ j → ∀ u v x5, u = nI j → v = Int64.ofInt (w8E x i (j - i) : Nat) → q_G q_mt (L, xs, q_shp) E nX12_wordFrom (d + 1) 0 0 (q_Q (L, xs, q_shp) E Q) 5 [some (.ref 271), some (.int (nI i)), some (.int (nI len)), some (.int (u)), some (.long (v)), x5] [] M) r ?_ ?_ i s1 (Nat.le_refl _)
  · refine w_in 90 [5, 55] ?_
    exact W _ _ _ rfl (by rw [Nat.sub_self]; rfl)
  · rintro hij u v x5 rfl rfl
    have ex : q_G q_mt (L, xs, q_shp) E nX12_wordFrom (d + 1) 0 0 (q_Q (L, xs, q_shp) E Q) 55 [some (.ref 271), some (.int (nI i)), some (.int (nI len)), some (.int (nI r)), some (.long (Int64.ofInt (w8E x i (r - i) : Nat))), x5] [] M := by
      refine w_at 90 [5, 55] ?_
      refine ⟨_, h7, ?_⟩
      refine ⟨c, _, by (first | assumption | (simp only [z_nat, z_lit, ← Int32.ofInt_add, ← Int32.ofInt_sub, ← Int32.ofInt_mul]; exact congrArg Int32.ofInt (by omega)) | (simp only [z_nat, z_lit, ← Int32.ofInt_add, ← Int32.ofInt_sub, ← Int32.ofInt_mul]; done) | exact congrArg Int32.ofInt (by omega) | rfl), by (dsimp only; omega), rfl, ?_⟩
      refine ⟨_, h7, ?_⟩
      refine z_le ((r : Int) - i) 8 (fun z => ?_) (fun z => ?_)
      · refine ⟨c, _, by (first | assumption | (simp only [z_nat, z_lit, ← Int32.ofInt_add, ← Int32.ofInt_sub, ← Int32.ofInt_mul]; exact congrArg Int32.ofInt (by omega)) | (simp only [z_nat, z_lit, ← Int32.ofInt_add, ← Int32.ofInt_sub, ← Int32.ofInt_mul]; done) | exact congrArg Int32.ofInt (by omega) | rfl), by (dsimp only; omega), rfl, ?_⟩
        refine ⟨_, h7, ?_⟩
        refine ⟨c, nI (r - i), by (first | assumption | (simp only [z_nat, z_lit, ← Int32.ofInt_add, ← Int32.ofInt_sub, ← Int32.ofInt_mul]; exact congrArg Int32.ofInt (by omega)) | (simp only [z_nat, z_lit, ← Int32.ofInt_add, ← Int32.ofInt_sub, ← Int32.ofInt_mul]; done) | exact congrArg Int32.ofInt (by omega) | rfl), by (dsimp only; omega), by (first | assumption | (simp only [z_nat, z_lit, ← Int32.ofInt_add, ← Int32.ofInt_sub, ← Int32.ofInt_mul]; exact congrArg Int32.ofInt (by omega)) | (simp only [z_nat, z_lit, ← Int32.ofInt_add, ← Int32.ofInt_sub, ← Int32.ofInt_mul]; done) | exact congrArg Int32.ofInt (by omega) | rfl), ?_⟩
        exact ⟨_, rfl, hQ⟩
      · have e0 : w8E x i (r - i) = 0 := by
          have := es (r - 1) (by omega)
          rw [show r - 1 + 1 - i = r - i by omega, if_neg (by omega)] at this
          exact this
        rw [e0] at hQ
        refine ⟨c, _, by (first | assumption | (simp only [z_nat, z_lit, ← Int32.ofInt_add, ← Int32.ofInt_sub, ← Int32.ofInt_mul]; exact congrArg Int32.ofInt (by omega)) | (simp only [z_nat, z_lit, ← Int32.ofInt_add, ← Int32.ofInt_sub, ← Int32.ofInt_mul]; done) | exact congrArg Int32.ofInt (by omega) | rfl), by (dsimp only; omega), rfl, ?_⟩
        refine ⟨_, h7, ?_⟩
        refine ⟨c, nI (r - i), by (first | assumption | (simp only [z_nat, z_lit, ← Int32.ofInt_add, ← Int32.ofInt_sub, ← Int32.ofInt_mul]; exact congrArg Int32.ofInt (by omega)) | (simp only [z_nat, z_lit, ← Int32.ofInt_add, ← Int32.ofInt_sub, ← Int32.ofInt_mul]; done) | exact congrArg Int32.ofInt (by omega) | rfl), by (dsimp only; omega), by (first | assumption | (simp only [z_nat, z_lit, ← Int32.ofInt_add, ← Int32.ofInt_sub, ← Int32.ofInt_mul]; exact congrArg Int32.ofInt (by omega)) | (simp only [z_nat, z_lit, ← Int32.ofInt_add, ← Int32.ofInt_sub, ← Int32.ofInt_mul]; done) | exact congrArg Int32.ofInt (by omega) | rfl), ?_⟩
        exact ⟨_, rfl, hQ⟩
    refine w_at 90 [5, 55] ?_
    refine z_le (len : Int) r (fun z => ex) (fun z => ?_)
    have ht := s4 (by omega)
    have hb := g.2 r (by omega)
    refine ⟨r, _, by (first | assumption | (simp only [z_nat, z_lit, ← Int32.ofInt_add, ← Int32.ofInt_sub, ← Int32.ofInt_mul]; exact congrArg Int32.ofInt (by omega)) | (simp only [z_nat, z_lit, ← Int32.ofInt_add, ← Int32.ofInt_sub, ← Int32.ofInt_mul]; done) | exact congrArg Int32.ofInt (by omega) | rfl), by (dsimp only; omega), hb.1, ?_⟩
    exact k_isLetter (x r) hb.2 (fun z => absurd (ht.symm.trans z) (by decide)) (fun _ => br_t (by decide) ex)
  · rintro j hj ih hij u v x5 rfl rfl
    have hb := g.2 j (by omega)
    have hd := lt j hij hj
    refine w_at 90 [5, 55] ?_
    refine z_le (len : Int) j (fun z => by omega) (fun z => ?_)
    refine ⟨j, _, by (first | assumption | (simp only [z_nat, z_lit, ← Int32.ofInt_add, ← Int32.ofInt_sub, ← Int32.ofInt_mul]; exact congrArg Int32.ofInt (by omega)) | (simp only [z_nat, z_lit, ← Int32.ofInt_add, ← Int32.ofInt_sub, ← Int32.ofInt_mul]; done) | exact congrArg Int32.ofInt (by omega) | rfl), by (dsimp only; omega), hb.1, ?_⟩
    refine k_isLetter (x j) hb.2 (fun _ => br_f (by decide) ?_) (fun z => absurd (z.symm.trans (s3 j hij hj)) (by decide))
    refine z_le 8 ((j : Int) - i) (fun z => ?_) (fun z => ?_)
    · exact ih (by omega) _ _ _ (by (first | assumption | (simp only [z_nat, z_lit, ← Int32.ofInt_add, ← Int32.ofInt_sub, ← Int32.ofInt_mul]; exact congrArg Int32.ofInt (by omega)) | (simp only [z_nat, z_lit, ← Int32.ofInt_add, ← Int32.ofInt_sub, ← Int32.ofInt_mul]; done) | exact congrArg Int32.ofInt (by omega) | rfl)) (by rw [es j hij, if_neg (by omega)]; rfl)
    · refine ⟨j, _, by (first | assumption | (simp only [z_nat, z_lit, ← Int32.ofInt_add, ← Int32.ofInt_sub, ← Int32.ofInt_mul]; exact congrArg Int32.ofInt (by omega)) | (simp only [z_nat, z_lit, ← Int32.ofInt_add, ← Int32.ofInt_sub, ← Int32.ofInt_mul]; done) | exact congrArg Int32.ofInt (by omega) | rfl), by (dsimp only; omega), hb.1, ?_⟩
      refine ih (by omega) _ _ _ (by (first | assumption | (simp only [z_nat, z_lit, ← Int32.ofInt_add, ← Int32.ofInt_sub, ← Int32.ofInt_mul]; exact congrArg Int32.ofInt (by omega)) | (simp only [z_nat, z_lit, ← Int32.ofInt_add, ← Int32.ofInt_sub, ← Int32.ofInt_mul]; done) | exact congrArg Int32.ofInt (by omega) | rfl)) ?_
      rw [es j hij, if_pos (by omega), y_sh8, z_nat, y_i2l (by omega), ← Int64.ofInt_mul, ← y_or8 hb.2]
      rw [show (w8E x i (j - i) : Int) * 256 = ((256 * w8E x i (j - i) : Nat) : Int) by omega]
end SP
