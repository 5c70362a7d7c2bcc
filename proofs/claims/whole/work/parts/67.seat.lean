/-! a dive is seated; the calls award, kept, alike -/
abbrev fE : List (Nat × Nat) := [(238, 4), (238, 5), (238, 6), (238, 7), (238, 8), (238, 9)]
/-- whose marks count for e -/
abbrev onE (t : q_T) (e : Nat) : Nat → Bool := fun j => onP t j e
theorem b_notset {x : Int32} {j i : Nat} (hj : j < 32) (hi : i < 32) (h : ¬ i = j) : bt (x ||| ((1 : Int32) <<< (nI j &&& 31))) i = bt x i := by
  rw [b_set hj hi, decide_eq_false h, Bool.or_false]
section SE
variable {L : Nat} {xs : Nat → Int32} {E : q_E} {d : Nat} {M : q_M} {t : q_T} {n : sN} {Q : Option Value → q_M → Prop} {P : q_M → Prop}
theorem g_A.seat_43 {M' : q_M} (g : g_A 43 M t n) (h : q_fs [239] fE M M') : g_A 43 M' t n := g.fs h g_o.of
theorem g_Z.seat_43 {M' : q_M} (g : g_Z 43 M t n) (h : q_fs [239] fE M M') : g_Z 43 M' t n := g.fs h g_o.of
set_option maxRecDepth 100000 in
set_option maxHeartbeats 4000000 in
theorem k2_seat_43 (g : g_Z 43 M t n) {a b : Int32} (e r : Nat) (he : e < t 8 0) (hr : r < t 0 0) (hQ : ∀ M', q_fs [239] fE M M' → g_P M' t (onE t e) (fun j => mk n e r j) (n (432 + (6 * e + r))) (n (468 + (6 * e + r))) (n (504 + (6 * e + r))) (t 7 (n (6 * e + r)).toNat) (t 1 0) → Q none M') (ha : a = nI e := by (first | assumption | (simp only [z_nat, z_lit, ← Int32.ofInt_add, ← Int32.ofInt_sub, ← Int32.ofInt_mul]; exact congrArg Int32.ofInt (by omega)) | (simp only [z_nat, z_lit, ← Int32.ofInt_add, ← Int32.ofInt_sub, ← Int32.ofInt_mul]; done) | exact congrArg Int32.ofInt (by omega) | rfl)) (hb : b = nI (r + 1) := by (first | assumption | (simp only [z_nat, z_lit, ← Int32.ofInt_add, ← Int32.ofInt_sub, ← Int32.ofInt_mul]; exact congrArg Int32.ofInt (by omega)) | (simp only [z_nat, z_lit, ← Int32.ofInt_add, ← Int32.ofInt_sub, ← Int32.ofInt_mul]; done) | exact congrArg Int32.ofInt (by omega) | rfl)) : q_C q_mt (L, xs, q_shp) E nX5_seat (d + 1) 0 0 [.ref 238, .ref 43, .int (a), .int (b)] M Q := by
  subst ha hb
  have h6 := g.R.e6
  have h7 := g.R.r6
  have h11 := g.R.j11
  have h10 := g.R.d10
  have hs := g.R.bs he hr
  have hdi := dv_i g.Z he hr
  have hdx := hdi.1
  have hd := g.R.bd hdi.2
  have hsl := g.sl (show 6 * e + r < 36 by omega)
  have W := lp_m (W := fun i M' => ∀ v, v = nI i → q_G q_mt (L, xs, q_shp) E nX5_seat (d + 1) 0 0 (q_Q (L, xs, q_shp) E Q) 107 [some (.ref 238), some (.ref 43), some (.int (nI e)), some (.int (nI (r + 1))), some (.int (nI (16 * (6 * e + r)))), some (.int (Int32.ofInt (n (6 * e + r)))), some (.int (v))] [] M') (J := fun i M' => q_fs [239] fE M M' ∧ ((M'.1 238 6 = Int32.ofInt (n (432 + (6 * e + r))) ∧ M'.1 238 7 = Int32.ofInt (n (468 + (6 * e + r))) ∧ M'.1 238 8 = Int32.ofInt (n (504 + (6 * e + r))) ∧ M'.1 238 9 = Int32.ofInt (t 7 (n (6 * e + r)).toNat) ∧ M'.1 238 4 = nI (t 1 0)) ∧ (∀ j, j < 32 → bt (M'.1 238 5) j = (decide (j < i) && onP t j e)) ∧ ∀ j, j < i → M'.1 239 j = Int32.ofInt (mk n e r j))) (t 2 0) ?_ ?_ 0
  · refine w_in 90 [107] ?_
    refine k2_slotOf e r ?_
    refine ⟨16 * (6 * e + r) + 2, _, by (first | assumption | (simp only [z_nat, z_lit, ← Int32.ofInt_add, ← Int32.ofInt_sub, ← Int32.ofInt_mul]; exact congrArg Int32.ofInt (by omega)) | (simp only [z_nat, z_lit, ← Int32.ofInt_add, ← Int32.ofInt_sub, ← Int32.ofInt_mul]; done) | exact congrArg Int32.ofInt (by omega) | rfl), by (dsimp only; omega), hsl.2.1, ?_⟩
    refine ⟨_, rfl, ?_⟩
    refine ⟨16 * (6 * e + r) + 3, _, by (first | assumption | (simp only [z_nat, z_lit, ← Int32.ofInt_add, ← Int32.ofInt_sub, ← Int32.ofInt_mul]; exact congrArg Int32.ofInt (by omega)) | (simp only [z_nat, z_lit, ← Int32.ofInt_add, ← Int32.ofInt_sub, ← Int32.ofInt_mul]; done) | exact congrArg Int32.ofInt (by omega) | rfl), by (dsimp only; omega), hsl.2.2.1, ?_⟩
    refine ⟨_, rfl, ?_⟩
    refine ⟨16 * (6 * e + r) + 4, _, by (first | assumption | (simp only [z_nat, z_lit, ← Int32.ofInt_add, ← Int32.ofInt_sub, ← Int32.ofInt_mul]; exact congrArg Int32.ofInt (by omega)) | (simp only [z_nat, z_lit, ← Int32.ofInt_add, ← Int32.ofInt_sub, ← Int32.ofInt_mul]; done) | exact congrArg Int32.ofInt (by omega) | rfl), by (dsimp only; omega), hsl.2.2.2, ?_⟩
    refine ⟨_, rfl, ?_⟩
    refine k2_cellOf e r ?_
    refine ⟨6 * e + r, _, by (first | assumption | (simp only [z_nat, z_lit, ← Int32.ofInt_add, ← Int32.ofInt_sub, ← Int32.ofInt_mul]; exact congrArg Int32.ofInt (by omega)) | (simp only [z_nat, z_lit, ← Int32.ofInt_add, ← Int32.ofInt_sub, ← Int32.ofInt_mul]; done) | exact congrArg Int32.ofInt (by omega) | rfl), by (dsimp only; omega), g.li he hr, ?_⟩
    have g1 := fun (x y z : Int32) => g.seat_43 (M' := q_si (q_si (q_si M 238 6 x) 238 7 y) 238 8 z) q_fs.rf.s1.s1.s1
    refine d_hasDive (g1 _ _ _).C g.R.b (fun i hi ei => br_f (by decide) ?_) (fun z => absurd ⟨_, hdi.2, hdi.1⟩ z)
    refine ⟨(n (6 * e + r)).toNat, _, by (first | assumption | (simp only [z_nat, z_lit, ← Int32.ofInt_add, ← Int32.ofInt_sub, ← Int32.ofInt_mul]; exact congrArg Int32.ofInt (by omega)) | (simp only [z_nat, z_lit, ← Int32.ofInt_add, ← Int32.ofInt_sub, ← Int32.ofInt_mul]; done) | exact congrArg Int32.ofInt (by omega) | rfl), by (dsimp only; omega), ((g1 _ _ _).di hdi.2).2, ?_⟩
    refine ⟨_, rfl, ?_⟩
    refine ⟨_, g.dr, ?_⟩
    refine ⟨_, rfl, ?_⟩
    refine ⟨_, rfl, ?_⟩
    refine W _ (Nat.zero_le _) ⟨q_fs.rf.s1.s1.s1.s1.s1.s1, ⟨rfl, rfl, rfl, rfl, rfl⟩, fun j hj => ?_, fun j hj => absurd hj (Nat.not_lt_zero _)⟩ _ rfl
    rw [q_si_s, decide_eq_false (Nat.not_lt_zero _), Bool.false_and]
    exact b_0 j
  · rintro M' ⟨hf, ⟨e6, e7, e8, e9, e4⟩, hb, hm⟩ v rfl
    have g' := g.seat_43 hf
    refine w_at 90 [107] ?_
    refine ⟨_, g'.jN, ?_⟩
    refine z_le (t 2 0) (t 2 0) (fun _ => ?_) (fun h => by omega)
    refine hQ M' hf ⟨fun j hj => ?_, fun j hj => ⟨hm j hj, (hs.2.1 j (by omega)).1, (hs.2.1 j (by omega)).2.1⟩, ⟨e6, hs.2.2.1⟩, ⟨e7, hs.2.2.2.1⟩, ⟨e8, hs.2.2.2.2.1⟩, ⟨e9, by omega, by omega⟩, e4, g.R.p3⟩
    rw [hb j (by omega), decide_eq_true hj, Bool.true_and]
  · rintro i M' hi ⟨hf, ⟨e6, e7, e8, e9, e4⟩, hb, hm⟩ ih v rfl
    have g' := g.seat_43 hf
    refine w_at 90 [107] ?_
    refine ⟨_, g'.jN, ?_⟩
    refine z_le (t 2 0) i (fun h => by omega) (fun h => ?_)
    refine ⟨16 * (6 * e + r) + 5 + i, _, by (first | assumption | (simp only [z_nat, z_lit, ← Int32.ofInt_add, ← Int32.ofInt_sub, ← Int32.ofInt_mul]; exact congrArg Int32.ofInt (by omega)) | (simp only [z_nat, z_lit, ← Int32.ofInt_add, ← Int32.ofInt_sub, ← Int32.ofInt_mul]; done) | exact congrArg Int32.ofInt (by omega) | rfl), by (dsimp only; omega), g'.mk (show 6 * e + r < 36 by omega) (show i < 11 by omega), ?_⟩
    refine ⟨i, _, by (first | assumption | (simp only [z_nat, z_lit, ← Int32.ofInt_add, ← Int32.ofInt_sub, ← Int32.ofInt_mul]; exact congrArg Int32.ofInt (by omega)) | (simp only [z_nat, z_lit, ← Int32.ofInt_add, ← Int32.ofInt_sub, ← Int32.ofInt_mul]; done) | exact congrArg Int32.ofInt (by omega) | rfl), by (dsimp only; omega), rfl, ?_⟩
    have hf2 : q_fs [239] fE M (q_si M' 239 i (Int32.ofInt (mk n e r i))) := hf.s1
    have g2 := g.seat_43 hf2
    have hm2 : ∀ j, j < i + 1 → (q_si M' 239 i (Int32.ofInt (mk n e r i))).1 239 j = Int32.ofInt (mk n e r j) := fun j hj => by
      by_cases q : j = i
      · rw [q, q_si_s]
      · rw [q_si_n q]
        exact hm j (by omega)
    refine k2_isOnPanel g2.Z i e hi he (fun h1 => br_f (by decide) ?_) (fun h1 => br_t (by decide) ?_)
    · refine ⟨_, rfl, ?_⟩
      refine ⟨_, rfl, ?_⟩
      refine ih _ ?_ _ (by (first | assumption | (simp only [z_nat, z_lit, ← Int32.ofInt_add, ← Int32.ofInt_sub, ← Int32.ofInt_mul]; exact congrArg Int32.ofInt (by omega)) | (simp only [z_nat, z_lit, ← Int32.ofInt_add, ← Int32.ofInt_sub, ← Int32.ofInt_mul]; done) | exact congrArg Int32.ofInt (by omega) | rfl))
      refine ⟨hf2.s1, ⟨e6, e7, e8, e9, e4⟩, fun j hj => ?_, hm2⟩
      rw [q_si_s]
      refine (b_set (by omega) hj).trans ?_
      show (bt (M'.1 238 5) j || decide (j = i)) = _
      rw [hb j hj]
      by_cases q : j = i
      · rw [q, decide_eq_true rfl, Bool.or_true, decide_eq_true (Nat.lt_succ_self i), Bool.true_and, h1]
      · rw [decide_eq_false q, Bool.or_false]
        by_cases q2 : j < i
        · rw [decide_eq_true q2, decide_eq_true (by omega)]
        · rw [decide_eq_false q2, decide_eq_false (by omega)]
    · refine ih _ ⟨hf2, ⟨e6, e7, e8, e9, e4⟩, fun j hj => ?_, hm2⟩ _ (by (first | assumption | (simp only [z_nat, z_lit, ← Int32.ofInt_add, ← Int32.ofInt_sub, ← Int32.ofInt_mul]; exact congrArg Int32.ofInt (by omega)) | (simp only [z_nat, z_lit, ← Int32.ofInt_add, ← Int32.ofInt_sub, ← Int32.ofInt_mul]; done) | exact congrArg Int32.ofInt (by omega) | rfl))
      show bt (M'.1 238 5) j = _
      rw [hb j hj]
      by_cases q : j = i
      · rw [q, h1, Bool.and_false, Bool.and_false]
      · by_cases q2 : j < i
        · rw [decide_eq_true q2, decide_eq_true (by omega)]
        · rw [decide_eq_false q2, decide_eq_false (by omega)]
theorem g_A.seat_257 {M' : q_M} (g : g_A 257 M t n) (h : q_fs [239] fE M M') : g_A 257 M' t n := g.fs h g_o.of
theorem g_Z.seat_257 {M' : q_M} (g : g_Z 257 M t n) (h : q_fs [239] fE M M') : g_Z 257 M' t n := g.fs h g_o.of
set_option maxRecDepth 100000 in
set_option maxHeartbeats 4000000 in
theorem k2_seat_257 (g : g_Z 257 M t n) {a b : Int32} (e r : Nat) (he : e < t 8 0) (hr : r < t 0 0) (hQ : ∀ M', q_fs [239] fE M M' → g_P M' t (onE t e) (fun j => mk n e r j) (n (432 + (6 * e + r))) (n (468 + (6 * e + r))) (n (504 + (6 * e + r))) (t 7 (n (6 * e + r)).toNat) (t 1 0) → Q none M') (ha : a = nI e := by (first | assumption | (simp only [z_nat, z_lit, ← Int32.ofInt_add, ← Int32.ofInt_sub, ← Int32.ofInt_mul]; exact congrArg Int32.ofInt (by omega)) | (simp only [z_nat, z_lit, ← Int32.ofInt_add, ← Int32.ofInt_sub, ← Int32.ofInt_mul]; done) | exact congrArg Int32.ofInt (by omega) | rfl)) (hb : b = nI (r + 1) := by (first | assumption | (simp only [z_nat, z_lit, ← Int32.ofInt_add, ← Int32.ofInt_sub, ← Int32.ofInt_mul]; exact congrArg Int32.ofInt (by omega)) | (simp only [z_nat, z_lit, ← Int32.ofInt_add, ← Int32.ofInt_sub, ← Int32.ofInt_mul]; done) | exact congrArg Int32.ofInt (by omega) | rfl)) : q_C q_mt (L, xs, q_shp) E nX5_seat (d + 1) 0 0 [.ref 238, .ref 257, .int (a), .int (b)] M Q := by
  subst ha hb
  have h6 := g.R.e6
  have h7 := g.R.r6
  have h11 := g.R.j11
  have h10 := g.R.d10
  have hs := g.R.bs he hr
  have hdi := dv_i g.Z he hr
  have hdx := hdi.1
  have hd := g.R.bd hdi.2
  have hsl := g.sl (show 6 * e + r < 36 by omega)
  have W := lp_m (W := fun i M' => ∀ v, v = nI i → q_G q_mt (L, xs, q_shp) E nX5_seat (d + 1) 0 0 (q_Q (L, xs, q_shp) E Q) 107 [some (.ref 238), some (.ref 257), some (.int (nI e)), some (.int (nI (r + 1))), some (.int (nI (16 * (6 * e + r)))), some (.int (Int32.ofInt (n (6 * e + r)))), some (.int (v))] [] M') (J := fun i M' => q_fs [239] fE M M' ∧ ((M'.1 238 6 = Int32.ofInt (n (432 + (6 * e + r))) ∧ M'.1 238 7 = Int32.ofInt (n (468 + (6 * e + r))) ∧ M'.1 238 8 = Int32.ofInt (n (504 + (6 * e + r))) ∧ M'.1 238 9 = Int32.ofInt (t 7 (n (6 * e + r)).toNat) ∧ M'.1 238 4 = nI (t 1 0)) ∧ (∀ j, j < 32 → bt (M'.1 238 5) j = (decide (j < i) && onP t j e)) ∧ ∀ j, j < i → M'.1 239 j = Int32.ofInt (mk n e r j))) (t 2 0) ?_ ?_ 0
  · refine w_in 90 [107] ?_
    refine k2_slotOf e r ?_
    refine ⟨16 * (6 * e + r) + 2, _, by (first | assumption | (simp only [z_nat, z_lit, ← Int32.ofInt_add, ← Int32.ofInt_sub, ← Int32.ofInt_mul]; exact congrArg Int32.ofInt (by omega)) | (simp only [z_nat, z_lit, ← Int32.ofInt_add, ← Int32.ofInt_sub, ← Int32.ofInt_mul]; done) | exact congrArg Int32.ofInt (by omega) | rfl), by (dsimp only; omega), hsl.2.1, ?_⟩
    refine ⟨_, rfl, ?_⟩
    refine ⟨16 * (6 * e + r) + 3, _, by (first | assumption | (simp only [z_nat, z_lit, ← Int32.ofInt_add, ← Int32.ofInt_sub, ← Int32.ofInt_mul]; exact congrArg Int32.ofInt (by omega)) | (simp only [z_nat, z_lit, ← Int32.ofInt_add, ← Int32.ofInt_sub, ← Int32.ofInt_mul]; done) | exact congrArg Int32.ofInt (by omega) | rfl), by (dsimp only; omega), hsl.2.2.1, ?_⟩
    refine ⟨_, rfl, ?_⟩
    refine ⟨16 * (6 * e + r) + 4, _, by (first | assumption | (simp only [z_nat, z_lit, ← Int32.ofInt_add, ← Int32.ofInt_sub, ← Int32.ofInt_mul]; exact congrArg Int32.ofInt (by omega)) | (simp only [z_nat, z_lit, ← Int32.ofInt_add, ← Int32.ofInt_sub, ← Int32.ofInt_mul]; done) | exact congrArg Int32.ofInt (by omega) | rfl), by (dsimp only; omega), hsl.2.2.2, ?_⟩
    refine ⟨_, rfl, ?_⟩
    refine k2_cellOf e r ?_
    refine ⟨6 * e + r, _, by (first | assumption | (simp only [z_nat, z_lit, ← Int32.ofInt_add, ← Int32.ofInt_sub, ← Int32.ofInt_mul]; exact congrArg Int32.ofInt (by omega)) | (simp only [z_nat, z_lit, ← Int32.ofInt_add, ← Int32.ofInt_sub, ← Int32.ofInt_mul]; done) | exact congrArg Int32.ofInt (by omega) | rfl), by (dsimp only; omega), g.li he hr, ?_⟩
    have g1 := fun (x y z : Int32) => g.seat_257 (M' := q_si (q_si (q_si M 238 6 x) 238 7 y) 238 8 z) q_fs.rf.s1.s1.s1
    refine d_hasDive (g1 _ _ _).C g.R.b (fun i hi ei => br_f (by decide) ?_) (fun z => absurd ⟨_, hdi.2, hdi.1⟩ z)
    refine ⟨(n (6 * e + r)).toNat, _, by (first | assumption | (simp only [z_nat, z_lit, ← Int32.ofInt_add, ← Int32.ofInt_sub, ← Int32.ofInt_mul]; exact congrArg Int32.ofInt (by omega)) | (simp only [z_nat, z_lit, ← Int32.ofInt_add, ← Int32.ofInt_sub, ← Int32.ofInt_mul]; done) | exact congrArg Int32.ofInt (by omega) | rfl), by (dsimp only; omega), ((g1 _ _ _).di hdi.2).2, ?_⟩
    refine ⟨_, rfl, ?_⟩
    refine ⟨_, g.dr, ?_⟩
    refine ⟨_, rfl, ?_⟩
    refine ⟨_, rfl, ?_⟩
    refine W _ (Nat.zero_le _) ⟨q_fs.rf.s1.s1.s1.s1.s1.s1, ⟨rfl, rfl, rfl, rfl, rfl⟩, fun j hj => ?_, fun j hj => absurd hj (Nat.not_lt_zero _)⟩ _ rfl
    rw [q_si_s, decide_eq_false (Nat.not_lt_zero _), Bool.false_and]
    exact b_0 j
  · rintro M' ⟨hf, ⟨e6, e7, e8, e9, e4⟩, hb, hm⟩ v rfl
    have g' := g.seat_257 hf
    refine w_at 90 [107] ?_
    refine ⟨_, g'.jN, ?_⟩
    refine z_le (t 2 0) (t 2 0) (fun _ => ?_) (fun h => by omega)
    refine hQ M' hf ⟨fun j hj => ?_, fun j hj => ⟨hm j hj, (hs.2.1 j (by omega)).1, (hs.2.1 j (by omega)).2.1⟩, ⟨e6, hs.2.2.1⟩, ⟨e7, hs.2.2.2.1⟩, ⟨e8, hs.2.2.2.2.1⟩, ⟨e9, by omega, by omega⟩, e4, g.R.p3⟩
    rw [hb j (by omega), decide_eq_true hj, Bool.true_and]
  · rintro i M' hi ⟨hf, ⟨e6, e7, e8, e9, e4⟩, hb, hm⟩ ih v rfl
    have g' := g.seat_257 hf
    refine w_at 90 [107] ?_
    refine ⟨_, g'.jN, ?_⟩
    refine z_le (t 2 0) i (fun h => by omega) (fun h => ?_)
    refine ⟨16 * (6 * e + r) + 5 + i, _, by (first | assumption | (simp only [z_nat, z_lit, ← Int32.ofInt_add, ← Int32.ofInt_sub, ← Int32.ofInt_mul]; exact congrArg Int32.ofInt (by omega)) | (simp only [z_nat, z_lit, ← Int32.ofInt_add, ← Int32.ofInt_sub, ← Int32.ofInt_mul]; done) | exact congrArg Int32.ofInt (by omega) | rfl), by (dsimp only; omega), g'.mk (show 6 * e + r < 36 by omega) (show i < 11 by omega), ?_⟩
    refine ⟨i, _, by (first | assumption | (simp only [z_nat, z_lit, ← Int32.ofInt_add, ← Int32.ofInt_sub, ← Int32.ofInt_mul]; exact congrArg Int32.ofInt (by omega)) | (simp only [z_nat, z_lit, ← Int32.ofInt_add, ← Int32.ofInt_sub, ← Int32.ofInt_mul]; done) | exact congrArg Int32.ofInt (by omega) | rfl), by (dsimp only; omega), rfl, ?_⟩
    have hf2 : q_fs [239] fE M (q_si M' 239 i (Int32.ofInt (mk n e r i))) := hf.s1
    have g2 := g.seat_257 hf2
    have hm2 : ∀ j, j < i + 1 → (q_si M' 239 i (Int32.ofInt (mk n e r i))).1 239 j = Int32.ofInt (mk n e r j) := fun j hj => by
      by_cases q : j = i
      · rw [q, q_si_s]
      · rw [q_si_n q]
        exact hm j (by omega)
    refine k2_isOnPanel g2.Z i e hi he (fun h1 => br_f (by decide) ?_) (fun h1 => br_t (by decide) ?_)
    · refine ⟨_, rfl, ?_⟩
      refine ⟨_, rfl, ?_⟩
      refine ih _ ?_ _ (by (first | assumption | (simp only [z_nat, z_lit, ← Int32.ofInt_add, ← Int32.ofInt_sub, ← Int32.ofInt_mul]; exact congrArg Int32.ofInt (by omega)) | (simp only [z_nat, z_lit, ← Int32.ofInt_add, ← Int32.ofInt_sub, ← Int32.ofInt_mul]; done) | exact congrArg Int32.ofInt (by omega) | rfl))
      refine ⟨hf2.s1, ⟨e6, e7, e8, e9, e4⟩, fun j hj => ?_, hm2⟩
      rw [q_si_s]
      refine (b_set (by omega) hj).trans ?_
      show (bt (M'.1 238 5) j || decide (j = i)) = _
      rw [hb j hj]
      by_cases q : j = i
      · rw [q, decide_eq_true rfl, Bool.or_true, decide_eq_true (Nat.lt_succ_self i), Bool.true_and, h1]
      · rw [decide_eq_false q, Bool.or_false]
        by_cases q2 : j < i
        · rw [decide_eq_true q2, decide_eq_true (by omega)]
        · rw [decide_eq_false q2, decide_eq_false (by omega)]
    · refine ih _ ⟨hf2, ⟨e6, e7, e8, e9, e4⟩, fun j hj => ?_, hm2⟩ _ (by (first | assumption | (simp only [z_nat, z_lit, ← Int32.ofInt_add, ← Int32.ofInt_sub, ← Int32.ofInt_mul]; exact congrArg Int32.ofInt (by omega)) | (simp only [z_nat, z_lit, ← Int32.ofInt_add, ← Int32.ofInt_sub, ← Int32.ofInt_mul]; done) | exact congrArg Int32.ofInt (by omega) | rfl))
      show bt (M'.1 238 5) j = _
      rw [hb j hj]
      by_cases q : j = i
      · rw [q, h1, Bool.and_false, Bool.and_false]
      · by_cases q2 : j < i
        · rw [decide_eq_true q2, decide_eq_true (by omega)]
        · rw [decide_eq_false q2, decide_eq_false (by omega)]
/-- of a given dive that is no failure all its panel have marked -/
theorem prt_on {e r : Nat} (g : g_R M t n) (he : e < t 8 0) (hr : r < t 0 0) (hg : n (576 + (6 * e + r)) = 1) (h0 : n (540 + (6 * e + r)) = 0) : ∀ j, j < t 2 0 → prt (fun j => mk n e r j) (-1) j = onE t e j := by
  intro j hj
  have h11 := g.j11
  have hs := g.bs he hr
  unfold prt
  rw [decide_eq_false (p := (j : Int) = -1) (by omega)]
  cases q : onE t e j with
  | true =>
    rw [decide_eq_false (hs.2.2.2.2.2.2.2.2 hg h0 j hj q)]
    rfl
  | false =>
    rw [decide_eq_true]
    · rfl
    · exact Classical.byContradiction (fun z => absurd (q.symm.trans ((hs.2.1 j (by omega)).2.2 z).2) (by decide))
/-- arguments that name a judge's mark of a dive that was given and did not fail -/
def aJud (t : q_T) (n : sN) (a b c : Int32) (e r j : Nat) : Prop := e < t 8 0 ∧ r < t 0 0 ∧ j < t 2 0 ∧ a = nI e ∧ b = nI (r + 1) ∧ c = nI j ∧ n (576 + (6 * e + r)) = 1 ∧ n (540 + (6 * e + r)) = 0 ∧ onP t j e = true
theorem aJud.un (g : g_R M t n) {a b c : Int32} {e r j e' r' j' : Nat} (h : aJud t n a b c e r j) (h' : aJud t n a b c e' r' j') : e = e' ∧ r = r' ∧ j = j' := by
  obtain ⟨he, hr, hj, rfl, rfl, rfl, -⟩ := h
  obtain ⟨he', hr', hj', e1, e2, e3, -⟩ := h'
  have h6 := g.e6
  have h7 := g.r6
  have h11 := g.j11
  have q1 := (nI_eq (by omega) (by omega)).mp e1
  have q2 := (nI_eq (by omega) (by omega)).mp e2
  have q3 := (nI_eq (by omega) (by omega)).mp e3
  omega
set_option maxRecDepth 100000 in
set_option maxHeartbeats 4000000 in
theorem k2_isJudged (g : g_A 43 M t n) {a b c : Int32} (h1 : ∀ e r j, aJud t n a b c e r j → Q (some (.int 1)) M) (h0 : (¬ ∃ e r j, aJud t n a b c e r j) → Q (some (.int 0)) M) : q_C q_mt (L, xs, q_shp) E nX11_isJudged (d + 3) 0 0 [.ref 2, .int (a), .int (b), .int (c)] M Q := by
  have h6 := g.R.e6
  have h7 := g.R.r6
  refine w_in 90 [] ?_
  refine k2_isGiven g (fun e r he hr e1 e2 hg => br_f (by decide) ?_) (fun z => br_t (by decide) ⟨z_0, h0 ?_⟩)
  · subst e1 e2
    have hx : ∀ e' r' j', aJud t n (nI e) (nI (r + 1)) c e' r' j' → e' = e ∧ r' = r := fun e' r' j' ⟨he', hr', _, e1, e2, _⟩ => by
      have q1 := (nI_eq (by omega) (by omega)).mp e1
      have q2 := (nI_eq (by omega) (by omega)).mp e2
      omega
    refine k2_isFailed_43 g.Z e r he hr (fun hf => bn_t (by decide) ⟨z_0, h0 ?_⟩) (fun hf => bn_f (by decide) ?_)
    · rintro ⟨e', r', j', h⟩
      obtain ⟨rfl, rfl⟩ := hx _ _ _ h
      have := h.2.2.2.2.2.2.2.1
      omega
    · refine d_hasJudge g.C g.R.b (fun j hj ej => br_f (by decide) ?_) (fun z => br_t (by decide) ⟨z_0, h0 ?_⟩)
      · subst ej
        refine k2_isOnPanel g.Z j e hj he (fun hp => br_f (by decide) ⟨z_1, h1 e r j ⟨he, hr, hj, rfl, rfl, rfl, hg, hf, hp⟩⟩) (fun hp => br_t (by decide) ⟨z_0, h0 ?_⟩)
        rintro ⟨e', r', j', h⟩
        obtain ⟨rfl, rfl⟩ := hx _ _ _ h
        have h11 := g.R.j11
        have q3 := (nI_eq (by omega) (by have := h.2.2.1; omega)).mp h.2.2.2.2.2.1
        rw [← q3] at h
        exact absurd (hp.symm.trans h.2.2.2.2.2.2.2.2) (by decide)
      · rintro ⟨e', r', j', h⟩
        exact z ⟨j', h.2.2.1, h.2.2.2.2.2.1⟩
  · rintro ⟨e', r', j', h⟩
    exact z ⟨e', r', h.1, h.2.1, h.2.2.2.1, h.2.2.2.2.1, h.2.2.2.2.2.2.1⟩
set_option maxRecDepth 100000 in
set_option maxHeartbeats 4000000 in
theorem k_isJudged (g : g_R M t n) {a b c : Int32} (h1 : ∀ e r j, aJud t n a b c e r j → Q (some (.int 1)) M) (h0 : (¬ ∃ e r j, aJud t n a b c e r j) → Q (some (.int 0)) M) : q_C q_mt (L, xs, q_shp) E nX12_isJudged (d + 3) 0 0 [.ref 271, .int (a), .int (b), .int (c)] M Q := by
  have h6 := g.e6
  have h7 := g.r6
  refine w_in 90 [] ?_
  refine k_isGivenDive g (fun e r he hr e1 e2 hg => br_f (by decide) ?_) (fun z => br_t (by decide) ⟨z_0, h0 ?_⟩)
  · subst e1 e2
    have hx : ∀ e' r' j', aJud t n (nI e) (nI (r + 1)) c e' r' j' → e' = e ∧ r' = r := fun e' r' j' ⟨he', hr', _, e1, e2, _⟩ => by
      have q1 := (nI_eq (by omega) (by omega)).mp e1
      have q2 := (nI_eq (by omega) (by omega)).mp e2
      omega
    refine k_hasFailed g e r he hr (fun hf => bn_t (by decide) ⟨z_0, h0 ?_⟩) (fun hf => bn_f (by decide) ?_)
    · rintro ⟨e', r', j', h⟩
      obtain ⟨rfl, rfl⟩ := hx _ _ _ h
      have := h.2.2.2.2.2.2.2.1
      omega
    · refine c_X12_isJudge g.1 g.b (fun j hj ej => br_f (by decide) ?_) (fun z => br_t (by decide) ⟨z_0, h0 ?_⟩)
      · subst ej
        refine k_judges g j e hj he (fun hp => br_f (by decide) ⟨z_1, h1 e r j ⟨he, hr, hj, rfl, rfl, rfl, hg, hf, hp⟩⟩) (fun hp => br_t (by decide) ⟨z_0, h0 ?_⟩)
        rintro ⟨e', r', j', h⟩
        obtain ⟨rfl, rfl⟩ := hx _ _ _ h
        have h11 := g.j11
        have q3 := (nI_eq (by omega) (by have := h.2.2.1; omega)).mp h.2.2.2.2.2.1
        rw [← q3] at h
        exact absurd (hp.symm.trans h.2.2.2.2.2.2.2.2) (by decide)
      · rintro ⟨e', r', j', h⟩
        exact z ⟨j', h.2.2.1, h.2.2.2.2.2.1⟩
  · rintro ⟨e', r', j', h⟩
    exact z ⟨e', r', h.1, h.2.1, h.2.2.2.1, h.2.2.2.2.1, h.2.2.2.2.2.2.1⟩
end SE
