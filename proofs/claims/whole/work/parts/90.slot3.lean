/-! the acts of the class at the board -/
section S3
variable {L : Nat} {xs : Nat → Int32} {E : q_E} {d : Nat} {M : q_M} {t : q_T} {n : sN} {Q : Option Value → q_M → Prop} {P : q_M → Prop}
theorem g_Z.sch_43 {n' : sN} {M' : q_M} (g : g_Z 43 M t n) (hJ : b_J t n) {e r : Nat} (hB : b_B t n e r) (hc : sch (6 * e + r) n n') (hN : b_N t n') (hf : q_fs [45] [] M M') (ho : ∀ i, ¬ (16 * (6 * e + r) < i ∧ i < 16 * (6 * e + r) + 16) → M'.1 45 i = M.1 45 i) (hn : M'.1 45 (16 * (6 * e + r) + 1) = Int32.ofInt (n' (540 + (6 * e + r))) ∧ M'.1 45 (16 * (6 * e + r) + 2) = Int32.ofInt (n' (432 + (6 * e + r))) ∧ M'.1 45 (16 * (6 * e + r) + 3) = Int32.ofInt (n' (468 + (6 * e + r))) ∧ M'.1 45 (16 * (6 * e + r) + 4) = Int32.ofInt (n' (504 + (6 * e + r)))) (hm : ∀ j, j < 11 → M'.1 45 (16 * (6 * e + r) + 5 + j) = Int32.ofInt (n' (36 + 11 * (6 * e + r) + j))) : g_Z 43 M' t n' :=
  ⟨⟨g.R.1, hN⟩, g.C.fs hf, g.S.sch hJ g.R.e6 g.R.r6 g.R.j11 hB hc (hf.c1 43) (hf.c1 (43 + 1)) (hf.c1 (43 + 3)) (hf.c1 (43 + 4)) (hf.c1 (43 + 5)) (hf.c1 (43 + 6)) (hf.c1 (43 + 7)) ho hn hm⟩
/-- one number of the board's slot: b of the class's, k of the row -/
theorem g_Z.one_43 {b k : Nat} {v : Int} (g : g_Z 43 M t n) (hJ : b_J t n) {e r : Nat} (hB : b_B t n e r) (he : e < 6) (hr : r < 6) (hN : b_N t (up n k v)) (hb : (b = 1 ∧ k = 540 + (6 * e + r)) ∨ (b = 2 ∧ k = 432 + (6 * e + r)) ∨ (b = 3 ∧ k = 468 + (6 * e + r)) ∨ (b = 4 ∧ k = 504 + (6 * e + r)) ∨ ∃ j, j < 11 ∧ b = 5 + j ∧ k = 36 + 11 * (6 * e + r) + j) : g_Z 43 (q_si M 45 (16 * (6 * e + r) + b) (Int32.ofInt v)) t (up n k v) := by
  have hs : 6 * e + r < 36 := by omega
  have hsl := g.sl hs
  have hbb : 1 ≤ b ∧ b < 16 := by
    rcases hb with h | h | h | h | ⟨j, h1, h2, h3⟩ <;> omega
  have key : ∀ b' k', b' < 16 → (b' = b ↔ k' = k) → M.1 45 (16 * (6 * e + r) + b') = Int32.ofInt (n k') → (q_si M 45 (16 * (6 * e + r) + b) (Int32.ofInt v)).1 45 (16 * (6 * e + r) + b') = Int32.ofInt (up n k v k') := fun b' k' h1 h2 h3 => by
    by_cases q : b' = b
    · rw [q, q_si_s, h2.mp q, up_s]
    · rw [q_si_n (by omega), up_n (fun z => q (h2.mpr z))]
      exact h3
  refine g.sch_43 hJ hB (fun i h1 h2 h3 h4 h5 => up_n ?_) hN q_fs.rf.s1 (fun i hi => q_si_n ?_) ⟨key 1 _ (by omega) ?_ hsl.1, key 2 _ (by omega) ?_ hsl.2.1, key 3 _ (by omega) ?_ hsl.2.2.1, key 4 _ (by omega) ?_ hsl.2.2.2⟩ (fun j hj => ?_)
  · rcases hb with h | h | h | h | ⟨j, y1, y2, y3⟩ <;> omega
  · omega
  · rcases hb with h | h | h | h | ⟨j, y1, y2, y3⟩ <;> omega
  · rcases hb with h | h | h | h | ⟨j, y1, y2, y3⟩ <;> omega
  · rcases hb with h | h | h | h | ⟨j, y1, y2, y3⟩ <;> omega
  · rcases hb with h | h | h | h | ⟨j, y1, y2, y3⟩ <;> omega
  · have := key (5 + j) (36 + 11 * (6 * e + r) + j) (by omega) (by rcases hb with h | h | h | h | ⟨i, y1, y2, y3⟩ <;> omega) (by
      have := g.mk hs hj
      rw [show 16 * (6 * e + r) + (5 + j) = 16 * (6 * e + r) + 5 + j by omega]
      exact this)
    rw [show 16 * (6 * e + r) + (5 + j) = 16 * (6 * e + r) + 5 + j by omega] at this
    exact this
set_option maxRecDepth 100000 in
set_option maxHeartbeats 4000000 in
theorem k2_isReady_43 (g : g_Z 43 M t n) (hD : b_D t n) (h1 : isO t n → Q (some (.int 1)) M) (h0 : ¬ isO t n → Q (some (.int 0)) M) : q_C q_mt (L, xs, q_shp) E nX6_isReady (d + 1) 0 0 [.ref 242] M Q := by
  have e1 := g.dv
  have h6 := g.R.e6
  have h7 := g.R.r6
  by_cases q : isB t n
  · have hb := hD.B q
    have he := hb.2.1
    have hr := hb.2.2.1
    have hs := (g.R.bs he hr).2.2.2.2.2.1
    rw [brd_at hb] at e1
    refine w_in 90 [] ?_
    refine ⟨_, e1, ?_⟩
    refine z_eq (bE n : Int) (-1) (fun z => by omega) (fun _ => ?_)
    refine k2_boardSlot g hb ?_
    refine ⟨16 * (6 * bE n + bR n) + 1, _, by (first | assumption | (simp only [z_nat, z_lit, ← Int32.ofInt_add, ← Int32.ofInt_sub, ← Int32.ofInt_mul]; exact congrArg Int32.ofInt (by omega)) | (simp only [z_nat, z_lit, ← Int32.ofInt_add, ← Int32.ofInt_sub, ← Int32.ofInt_mul]; done) | exact congrArg Int32.ofInt (by omega) | rfl), by (dsimp only; omega), (g.sl (show (6 * bE n + bR n) < 36 by omega)).1, ?_⟩
    exact z_ne (n (540 + (6 * bE n + bR n))) 0 (fun h => ⟨z_0, h0 (fun z => h z.2)⟩) (fun h => ⟨z_1, h1 ⟨q, h⟩⟩)
  · rw [brd_no q] at e1
    refine w_in 90 [] ?_
    refine ⟨_, e1, ?_⟩
    exact z_eq (-1) (-1) (fun _ => ⟨z_0, h0 (fun z => q z.1)⟩) (fun z => absurd rfl z)
set_option maxRecDepth 100000 in
set_option maxHeartbeats 4000000 in
theorem k2_doMark_43 (g : g_Z 43 M t n) (hJ : b_J t n) {a b : Int32} (j : Nat) (w : Int) (hj : j < t 2 0) (hw : 0 ≤ w ∧ w ≤ 20) (hQ : cQ 43 [45] [] M t (aMark t n j w) Q) (ha : a = nI j := by (first | assumption | (simp only [z_nat, z_lit, ← Int32.ofInt_add, ← Int32.ofInt_sub, ← Int32.ofInt_mul]; exact congrArg Int32.ofInt (by omega)) | (simp only [z_nat, z_lit, ← Int32.ofInt_add, ← Int32.ofInt_sub, ← Int32.ofInt_mul]; done) | exact congrArg Int32.ofInt (by omega) | rfl)) (hb : b = Int32.ofInt w := by (first | assumption | (simp only [z_nat, z_lit, ← Int32.ofInt_add, ← Int32.ofInt_sub, ← Int32.ofInt_mul]; exact congrArg Int32.ofInt (by omega)) | (simp only [z_nat, z_lit, ← Int32.ofInt_add, ← Int32.ofInt_sub, ← Int32.ofInt_mul]; done) | exact congrArg Int32.ofInt (by omega) | rfl)) : q_C q_mt (L, xs, q_shp) E nX6_doMark (d + 2) 0 0 [.ref 242, .int (a), .int (b)] M Q := by
  subst ha hb
  have h6 := g.R.e6
  have h7 := g.R.r6
  have h11 := g.R.j11
  have fin : (¬ (isO t n ∧ onP t j (bE n) = true)) → Q (some (.int (Int32.ofInt (-3)))) M := fun z => hQ.1 (if_neg (fun y => z (by rw [Bool.and_eq_true, isOb_t] at y; exact y)))
  refine w_in 90 [] ?_
  refine k2_isReady_43 g (hJ.D h6) (fun q => br_f (by decide) ?_) (fun q => br_t (by decide) ⟨_, rfl, fin (fun z => q z.1)⟩)
  obtain ⟨hB, he, hr, hs, hg, hk⟩ := hJ.O g.R q
  have e1 := g.dv
  rw [brd_at hB] at e1
  refine ⟨_, e1, ?_⟩
  refine k2_isOnPanel g j (bE n) hj he.1 (fun ho => bn_t (by decide) ?_) (fun ho => bn_f (by decide) ⟨_, rfl, fin (fun z => by rw [ho] at z; exact absurd z.2 (by decide))⟩)
  have hy : aMark t n j w = some (((mkN t (nMk n j w) (bE n) (bR n) : Nat) : Int), nMk n j w) := if_pos (by rw [Bool.and_eq_true, isOb_t]; exact ⟨q, ho⟩)
  have hJ' := (aMark_ok hJ g.R hj hw _ _ hy).1
  refine k2_boardSlot g hB ?_
  refine ⟨16 * (6 * bE n + bR n) + (5 + j), _, by (first | assumption | (simp only [z_nat, z_lit, ← Int32.ofInt_add, ← Int32.ofInt_sub, ← Int32.ofInt_mul]; exact congrArg Int32.ofInt (by omega)) | (simp only [z_nat, z_lit, ← Int32.ofInt_add, ← Int32.ofInt_sub, ← Int32.ofInt_mul]; done) | exact congrArg Int32.ofInt (by omega) | rfl), by (dsimp only; omega), rfl, ?_⟩
  have g' := g.one_43 hJ hB he.2 hr.2 hJ'.1.1 (b := 5 + j) (Or.inr (Or.inr (Or.inr (Or.inr ⟨j, by omega, rfl, rfl⟩))))
  refine k2_countMarks g' (bE n) (bR n) he.1 hr.1 ⟨_, rfl, ?_⟩
  exact hQ.2 _ _ hy _ q_fs.rf.s1 g'
set_option maxRecDepth 100000 in
set_option maxHeartbeats 4000000 in
theorem k2_doCap_43 (g : g_Z 43 M t n) (hJ : b_J t n) {a : Int32} (w : Int) (hw : 0 ≤ w ∧ w ≤ 20) (hQ : cQ 43 [45] [] M t (aCap t n w) Q) (ha : a = Int32.ofInt w := by (first | assumption | (simp only [z_nat, z_lit, ← Int32.ofInt_add, ← Int32.ofInt_sub, ← Int32.ofInt_mul]; exact congrArg Int32.ofInt (by omega)) | (simp only [z_nat, z_lit, ← Int32.ofInt_add, ← Int32.ofInt_sub, ← Int32.ofInt_mul]; done) | exact congrArg Int32.ofInt (by omega) | rfl)) : q_C q_mt (L, xs, q_shp) E nX6_doCap (d + 2) 0 0 [.ref 242, .int (a)] M Q := by
  subst ha
  have h6 := g.R.e6
  have h7 := g.R.r6
  refine w_in 90 [] ?_
  refine k2_isReady_43 g (hJ.D h6) (fun q => bn_t (by decide) ?_) (fun q => bn_f (by decide) ⟨_, rfl, hQ.1 (if_neg (by rw [isOb_t]; exact q))⟩)
  obtain ⟨hB, he, hr, hs, hg, hk⟩ := hJ.O g.R q
  have hy : aCap t n w = some (n (432 + (6 * bE n + bR n)), nCp n w) := if_pos (isOb_t.mpr q)
  have hJ' := (aCap_ok hJ g.R hw _ _ hy).1
  refine k2_boardSlot g hB ?_
  refine ⟨16 * (6 * bE n + bR n) + 2, _, by (first | assumption | (simp only [z_nat, z_lit, ← Int32.ofInt_add, ← Int32.ofInt_sub, ← Int32.ofInt_mul]; exact congrArg Int32.ofInt (by omega)) | (simp only [z_nat, z_lit, ← Int32.ofInt_add, ← Int32.ofInt_sub, ← Int32.ofInt_mul]; done) | exact congrArg Int32.ofInt (by omega) | rfl), by (dsimp only; omega), (g.sl (show (6 * bE n + bR n) < 36 by omega)).2.1, ?_⟩
  refine ⟨16 * (6 * bE n + bR n) + 2, _, by (first | assumption | (simp only [z_nat, z_lit, ← Int32.ofInt_add, ← Int32.ofInt_sub, ← Int32.ofInt_mul]; exact congrArg Int32.ofInt (by omega)) | (simp only [z_nat, z_lit, ← Int32.ofInt_add, ← Int32.ofInt_sub, ← Int32.ofInt_mul]; done) | exact congrArg Int32.ofInt (by omega) | rfl), by (dsimp only; omega), rfl, ?_⟩
  exact ⟨_, rfl, hQ.2 _ _ hy _ q_fs.rf.s1 (g.one_43 hJ hB he.2 hr.2 hJ'.1.1 (Or.inr (Or.inl ⟨rfl, rfl⟩)))⟩
set_option maxRecDepth 100000 in
set_option maxHeartbeats 4000000 in
theorem k2_doHalf_43 (g : g_Z 43 M t n) (hJ : b_J t n) {a : Int32} (k : Nat) (hk2 : k < 2) (hQ : cQ 43 [45] [] M t (aHalf t n k) Q) (ha : a = nI k := by (first | assumption | (simp only [z_nat, z_lit, ← Int32.ofInt_add, ← Int32.ofInt_sub, ← Int32.ofInt_mul]; exact congrArg Int32.ofInt (by omega)) | (simp only [z_nat, z_lit, ← Int32.ofInt_add, ← Int32.ofInt_sub, ← Int32.ofInt_mul]; done) | exact congrArg Int32.ofInt (by omega) | rfl)) : q_C q_mt (L, xs, q_shp) E nX6_doHalf (d + 2) 0 0 [.ref 242, .int (a)] M Q := by
  subst ha
  have h6 := g.R.e6
  have h7 := g.R.r6
  have fin : (¬ (isO t n ∧ t 9 (bE n) = 1 ∧ hvH (n (504 + (6 * bE n + bR n))) k = false)) → Q (some (.int (Int32.ofInt (-3)))) M := fun z => hQ.1 (if_neg (fun y => z (by rw [Bool.and_eq_true, isOb_t, Bool.and_eq_true, decide_eq_true_eq, Bool.not_eq_true'] at y; exact y)))
  refine w_in 90 [] ?_
  refine k2_isReady_43 g (hJ.D h6) (fun q => br_f (by decide) ?_) (fun q => br_t (by decide) ⟨_, rfl, fin (fun z => q z.1)⟩)
  obtain ⟨hB, he, hr, hs, hg, hk⟩ := hJ.O g.R q
  have e1 := g.dv
  rw [brd_at hB] at e1
  have h9 := (g.R.be he.1).1
  have hb := hs.2.2.2.2.1
  obtain ⟨v, hv⟩ : ∃ v : Nat, n (504 + (6 * bE n + bR n)) = v := ⟨(n (504 + (6 * bE n + bR n))).toNat, by omega⟩
  have ha := hv_at v (by omega) k hk2
  have e0 : M.1 45 (16 * (6 * bE n + bR n) + 4) = Int32.ofInt v := by
    have := (g.sl (show (6 * bE n + bR n) < 36 by omega)).2.2.2
    rw [hv] at this
    exact this
  refine ⟨_, e1, ?_⟩
  refine ⟨bE n, _, by (first | assumption | (simp only [z_nat, z_lit, ← Int32.ofInt_add, ← Int32.ofInt_sub, ← Int32.ofInt_mul]; exact congrArg Int32.ofInt (by omega)) | (simp only [z_nat, z_lit, ← Int32.ofInt_add, ← Int32.ofInt_sub, ← Int32.ofInt_mul]; done) | exact congrArg Int32.ofInt (by omega) | rfl), by (dsimp only; omega), (g.en he.1).1, ?_⟩
  refine z_ne (t 9 (bE n)) 0 (fun hp => ?_) (fun hp => ⟨_, rfl, fin (fun z => by have := z.2.1; omega)⟩)
  refine k2_boardSlot g hB ?_
  refine ⟨16 * (6 * bE n + bR n) + 4, _, by (first | assumption | (simp only [z_nat, z_lit, ← Int32.ofInt_add, ← Int32.ofInt_sub, ← Int32.ofInt_mul]; exact congrArg Int32.ofInt (by omega)) | (simp only [z_nat, z_lit, ← Int32.ofInt_add, ← Int32.ofInt_sub, ← Int32.ofInt_mul]; done) | exact congrArg Int32.ofInt (by omega) | rfl), by (dsimp only; omega), e0, ?_⟩
  have eb := b_at (x := Int32.ofInt v) (j := k) (by omega)
  rw [ha.1] at eb
  by_cases hh : hvH v k = true
  · rw [if_pos hh] at eb
    refine z_ne 1 1 (fun z => absurd rfl z) (fun _ => ⟨_, rfl, fin (fun z => ?_)⟩) (hx := eb)
    rw [hv, hh] at z
    exact absurd z.2.2 (by decide)
  · have hh : hvH v k = false := by simpa using hh
    rw [if_neg (by rw [hh]; decide)] at eb
    refine z_ne 0 1 (fun _ => ?_) (fun z => by omega) (hx := eb)
    have hy : aHalf t n k = some (hvN (n (504 + (6 * bE n + bR n))) k, nHf n (hvN (n (504 + (6 * bE n + bR n))) k)) := if_pos (by rw [Bool.and_eq_true, isOb_t, Bool.and_eq_true, decide_eq_true_eq, Bool.not_eq_true', hv]; exact ⟨q, by omega, hh⟩)
    have hJ' := (aHalf_ok hJ g.R hk2 _ _ hy).1
    have e3 := ha.2 hh
    refine ⟨16 * (6 * bE n + bR n) + 4, _, by (first | assumption | (simp only [z_nat, z_lit, ← Int32.ofInt_add, ← Int32.ofInt_sub, ← Int32.ofInt_mul]; exact congrArg Int32.ofInt (by omega)) | (simp only [z_nat, z_lit, ← Int32.ofInt_add, ← Int32.ofInt_sub, ← Int32.ofInt_mul]; done) | exact congrArg Int32.ofInt (by omega) | rfl), by (dsimp only; omega), e0, ?_⟩
    refine ⟨16 * (6 * bE n + bR n) + 4, Int32.ofInt (hvN v k), by (first | assumption | (simp only [z_nat, z_lit, ← Int32.ofInt_add, ← Int32.ofInt_sub, ← Int32.ofInt_mul]; exact congrArg Int32.ofInt (by omega)) | (simp only [z_nat, z_lit, ← Int32.ofInt_add, ← Int32.ofInt_sub, ← Int32.ofInt_mul]; done) | exact congrArg Int32.ofInt (by omega) | rfl), by (dsimp only; omega), by (first | assumption | (simp only [z_nat, z_lit, ← Int32.ofInt_add, ← Int32.ofInt_sub, ← Int32.ofInt_mul]; exact congrArg Int32.ofInt (by omega)) | (simp only [z_nat, z_lit, ← Int32.ofInt_add, ← Int32.ofInt_sub, ← Int32.ofInt_mul]; done) | exact congrArg Int32.ofInt (by omega) | rfl), ?_⟩
    refine ⟨16 * (6 * bE n + bR n) + 4, _, by (first | assumption | (simp only [z_nat, z_lit, ← Int32.ofInt_add, ← Int32.ofInt_sub, ← Int32.ofInt_mul]; exact congrArg Int32.ofInt (by omega)) | (simp only [z_nat, z_lit, ← Int32.ofInt_add, ← Int32.ofInt_sub, ← Int32.ofInt_mul]; done) | exact congrArg Int32.ofInt (by omega) | rfl), by (dsimp only; omega), q_si_s, ?_⟩
    refine ⟨_, rfl, ?_⟩
    have g' := g.one_43 hJ hB he.2 hr.2 hJ'.1.1 (b := 4) (Or.inr (Or.inr (Or.inr (Or.inl ⟨rfl, rfl⟩))))
    have := hQ.2 _ _ hy _ (q_fs.rf.s1) g'
    rw [hv] at this
    exact this
set_option maxRecDepth 100000 in
set_option maxHeartbeats 4000000 in
theorem k2_clearMarks_43 {a : Int32} (s : Nat) (hs : s < 36) (hQ : ∀ M', q_fs [45] [] M M' → (∀ i, M'.1 45 i = if 16 * s + 5 ≤ i ∧ i < 16 * s + 16 then Int32.ofInt (-1) else M.1 45 i) → Q none M') (ha : a = nI (16 * s) := by (first | assumption | (simp only [z_nat, z_lit, ← Int32.ofInt_add, ← Int32.ofInt_sub, ← Int32.ofInt_mul]; exact congrArg Int32.ofInt (by omega)) | (simp only [z_nat, z_lit, ← Int32.ofInt_add, ← Int32.ofInt_sub, ← Int32.ofInt_mul]; done) | exact congrArg Int32.ofInt (by omega) | rfl)) : q_C q_mt (L, xs, q_shp) E nX8_clearMarks (d) 0 0 [.ref 43, .int (a)] M Q := by
  subst ha
  have W := lp_m (W := fun i M' => ∀ v, v = nI i → q_G q_mt (L, xs, q_shp) E nX8_clearMarks (d) 0 0 (q_Q (L, xs, q_shp) E Q) 2 [some (.ref 43), some (.int (nI (16 * s))), some (.int (v))] [] M') (J := fun i M' => q_fs [45] [] M M' ∧ ∀ k, M'.1 45 k = if 16 * s + 5 ≤ k ∧ k < 16 * s + 5 + i then Int32.ofInt (-1) else M.1 45 k) 11 ?_ ?_ 0 M (Nat.zero_le _) ⟨q_fs.rf, fun k => by rw [if_neg (by omega)]⟩
  · refine w_in 90 [2] ?_
    exact W _ rfl
  · rintro M' ⟨hf, hm⟩ v rfl
    refine w_at 90 [2] ?_
    exact z_le 11 (11 : Nat) (fun _ => hQ M' hf hm) (fun h => by omega)
  · rintro i M' hi ⟨hf, hm⟩ ih v rfl
    refine w_at 90 [2] ?_
    refine z_le 11 (i : Int) (fun h => by omega) (fun _ => ?_)
    refine ⟨16 * s + 5 + i, _, by (first | assumption | (simp only [z_nat, z_lit, ← Int32.ofInt_add, ← Int32.ofInt_sub, ← Int32.ofInt_mul]; exact congrArg Int32.ofInt (by omega)) | (simp only [z_nat, z_lit, ← Int32.ofInt_add, ← Int32.ofInt_sub, ← Int32.ofInt_mul]; done) | exact congrArg Int32.ofInt (by omega) | rfl), by (dsimp only; omega), rfl, ?_⟩
    refine ih _ ⟨hf.s1, fun k => ?_⟩ _ (by (first | assumption | (simp only [z_nat, z_lit, ← Int32.ofInt_add, ← Int32.ofInt_sub, ← Int32.ofInt_mul]; exact congrArg Int32.ofInt (by omega)) | (simp only [z_nat, z_lit, ← Int32.ofInt_add, ← Int32.ofInt_sub, ← Int32.ofInt_mul]; done) | exact congrArg Int32.ofInt (by omega) | rfl))
    by_cases q : k = 16 * s + 5 + i
    · rw [q, q_si_s, if_pos (by omega)]
    · rw [q_si_n q, hm k]
      by_cases q2 : 16 * s + 5 ≤ k ∧ k < 16 * s + 5 + i
      · rw [if_pos q2, if_pos (by omega)]
      · rw [if_neg q2, if_neg (by omega)]
set_option maxRecDepth 100000 in
set_option maxHeartbeats 4000000 in
theorem k2_failGo_43 (g : g_Z 43 M t n) (hD : b_D t n) (q : isO t n) (hQ : ∀ M', q_fs [45] [] M M' → (∀ i, M'.1 45 i = if 16 * (6 * bE n + bR n) + 5 ≤ i ∧ i < 16 * (6 * bE n + bR n) + 16 then Int32.ofInt (-1) else if i = 16 * (6 * bE n + bR n) + 1 then Int32.ofInt 1 else M.1 45 i) → Q (some (.int (Int32.ofInt 0))) M') : q_C q_mt (L, xs, q_shp) E nX6_doFail (d + 2) 0 0 [.ref 242] M Q := by
  have h6 := g.R.e6
  have h7 := g.R.r6
  have hB := hD.B q.1
  have he := hB.2.1
  have hr := hB.2.2.1
  refine w_in 90 [] ?_
  refine k2_isReady_43 g hD (fun _ => bn_t (by decide) ?_) (fun z => absurd q z)
  refine k2_boardSlot g hB ?_
  refine ⟨16 * (6 * bE n + bR n) + 1, _, by (first | assumption | (simp only [z_nat, z_lit, ← Int32.ofInt_add, ← Int32.ofInt_sub, ← Int32.ofInt_mul]; exact congrArg Int32.ofInt (by omega)) | (simp only [z_nat, z_lit, ← Int32.ofInt_add, ← Int32.ofInt_sub, ← Int32.ofInt_mul]; done) | exact congrArg Int32.ofInt (by omega) | rfl), by (dsimp only; omega), rfl, ?_⟩
  refine k2_clearMarks_43 ((6 * bE n + bR n)) (by omega) (fun M' hf hm => ⟨_, rfl, hQ M' ((q_fs.rf.s1 (r := 45) (i := 16 * (6 * bE n + bR n) + 1) (x := Int32.ofInt 1)).tr hf) (fun i => ?_)⟩)
  rw [hm i]
  by_cases q2 : i = 16 * (6 * bE n + bR n) + 1
  · rw [q2, q_si_s, if_pos rfl]
  · rw [q_si_n q2, if_neg q2]
set_option maxRecDepth 100000 in
set_option maxHeartbeats 4000000 in
theorem k2_doFail_43 (g : g_Z 43 M t n) (hJ : b_J t n) (hQ : cQ 43 [45] [] M t (aFail t n) Q) : q_C q_mt (L, xs, q_shp) E nX6_doFail (d + 2) 0 0 [.ref 242] M Q := by
  have h6 := g.R.e6
  have h7 := g.R.r6
  by_cases q : isO t n
  · obtain ⟨hB, he, hr, hs, hg, hk⟩ := hJ.O g.R q
    have hy : aFail t n = some (0, nFl n ((6 * bE n + bR n))) := if_pos (isOb_t.mpr q)
    have hJ' := (aFail_ok hJ g.R _ _ hy).1
    have s36 : (6 * bE n + bR n) < 36 := by omega
    have hsl := g.sl s36
    refine k2_failGo_43 g (hJ.D h6) q (fun M' hf hm => hQ.2 _ _ hy M' hf (g.sch_43 hJ hB fl_sch hJ'.1.1 hf (fun i hi => ?_) ⟨?_, ?_, ?_, ?_⟩ (fun j hj => ?_)))
    · rw [hm i, if_neg (by omega), if_neg (by omega)]
    · rw [hm _, if_neg (by omega), if_pos rfl, nFl_f]
    · rw [hm _, if_neg (by omega), if_neg (by omega), nFl_o (by omega) s36 (by omega)]
      exact hsl.2.1
    · rw [hm _, if_neg (by omega), if_neg (by omega), nFl_o (by omega) s36 (by omega)]
      exact hsl.2.2.1
    · rw [hm _, if_neg (by omega), if_neg (by omega), nFl_o (by omega) s36 (by omega)]
      exact hsl.2.2.2
    · rw [hm _, if_pos (by omega), nFl_m s36 hj]
  · refine w_in 90 [] ?_
    exact k2_isReady_43 g (hJ.D h6) (fun z => absurd z q) (fun q => bn_f (by decide) ⟨_, rfl, hQ.1 (if_neg (by rw [isOb_t]; exact q))⟩)
set_option maxRecDepth 100000 in
set_option maxHeartbeats 4000000 in
theorem k2_doBalk_43 (g : g_Z 43 M t n) (hJ : b_J t n) (hQ : cQ 43 [45] [] M t (aBalk t n) Q) : q_C q_mt (L, xs, q_shp) E nX6_doBalk (d + 3) 0 0 [.ref 242] M Q := by
  have h6 := g.R.e6
  have h7 := g.R.r6
  refine w_in 90 [] ?_
  refine k2_isReady_43 g (hJ.D h6) (fun q => bn_t (by decide) ?_) (fun q => bn_f (by decide) ⟨_, rfl, hQ.1 (if_neg (by rw [isOb_t]; exact q))⟩)
  obtain ⟨hB, he, hr, hs, hg, hk⟩ := hJ.O g.R q
  have b0 := hs.2.2.2.1
  have hy : aBalk t n = some (n (468 + (6 * bE n + bR n)) + 1, if n (468 + (6 * bE n + bR n)) + 1 = 2 then nFl (nBk n) ((6 * bE n + bR n)) else nBk n) := if_pos (isOb_t.mpr q)
  have hJ' := (aBalk_ok hJ g.R _ _ hy).1
  have s36 : (6 * bE n + bR n) < 36 := by omega
  have hsl := g.sl s36
  obtain ⟨u1, u2⟩ := bk_b hJ g.R q
  have hN1 : b_N t (nBk n) := g.R.bn.sch h6 h7 g.R.j11 he.1 hr.1 u1 u2
  have g1 : g_Z 43 (q_si M 45 (16 * (6 * bE n + bR n) + 3) (Int32.ofInt (n (468 + (6 * bE n + bR n)) + 1))) t (nBk n) := g.one_43 hJ hB he.2 hr.2 hN1 (b := 3) (Or.inr (Or.inr (Or.inl ⟨rfl, rfl⟩)))
  refine k2_boardSlot g hB ?_
  refine ⟨16 * (6 * bE n + bR n) + 3, _, by (first | assumption | (simp only [z_nat, z_lit, ← Int32.ofInt_add, ← Int32.ofInt_sub, ← Int32.ofInt_mul]; exact congrArg Int32.ofInt (by omega)) | (simp only [z_nat, z_lit, ← Int32.ofInt_add, ← Int32.ofInt_sub, ← Int32.ofInt_mul]; done) | exact congrArg Int32.ofInt (by omega) | rfl), by (dsimp only; omega), hsl.2.2.1, ?_⟩
  refine ⟨16 * (6 * bE n + bR n) + 3, Int32.ofInt (n (468 + (6 * bE n + bR n)) + 1), by (first | assumption | (simp only [z_nat, z_lit, ← Int32.ofInt_add, ← Int32.ofInt_sub, ← Int32.ofInt_mul]; exact congrArg Int32.ofInt (by omega)) | (simp only [z_nat, z_lit, ← Int32.ofInt_add, ← Int32.ofInt_sub, ← Int32.ofInt_mul]; done) | exact congrArg Int32.ofInt (by omega) | rfl), by (dsimp only; omega), by (first | assumption | (simp only [z_nat, z_lit, ← Int32.ofInt_add, ← Int32.ofInt_sub, ← Int32.ofInt_mul]; exact congrArg Int32.ofInt (by omega)) | (simp only [z_nat, z_lit, ← Int32.ofInt_add, ← Int32.ofInt_sub, ← Int32.ofInt_mul]; done) | exact congrArg Int32.ofInt (by omega) | rfl), ?_⟩
  refine ⟨16 * (6 * bE n + bR n) + 3, _, by (first | assumption | (simp only [z_nat, z_lit, ← Int32.ofInt_add, ← Int32.ofInt_sub, ← Int32.ofInt_mul]; exact congrArg Int32.ofInt (by omega)) | (simp only [z_nat, z_lit, ← Int32.ofInt_add, ← Int32.ofInt_sub, ← Int32.ofInt_mul]; done) | exact congrArg Int32.ofInt (by omega) | rfl), by (dsimp only; omega), q_si_s, ?_⟩
  refine z_le (n (468 + (6 * bE n + bR n)) + 1) 1 (fun q2 => ?_) (fun q2 => ?_)
  · rw [if_neg (by omega)] at hy
    refine ⟨16 * (6 * bE n + bR n) + 3, _, by (first | assumption | (simp only [z_nat, z_lit, ← Int32.ofInt_add, ← Int32.ofInt_sub, ← Int32.ofInt_mul]; exact congrArg Int32.ofInt (by omega)) | (simp only [z_nat, z_lit, ← Int32.ofInt_add, ← Int32.ofInt_sub, ← Int32.ofInt_mul]; done) | exact congrArg Int32.ofInt (by omega) | rfl), by (dsimp only; omega), q_si_s, ?_⟩
    exact ⟨_, rfl, hQ.2 _ _ hy _ q_fs.rf.s1 g1⟩
  · rw [if_pos (by omega)] at hy hJ'
    have e2 := u1.b s36
    have o1 : isO t (nBk n) := by
      refine ⟨?_, ?_⟩
      · show ¬ t 0 0 = 0 ∧ ¬ up n (468 + (6 * bE n + bR n)) (n (468 + (6 * bE n + bR n)) + 1) 633 = 1
        rw [up_n (by omega)]
        exact q.1
      · rw [e2.1, e2.2]
        show up n (468 + (6 * bE n + bR n)) (n (468 + (6 * bE n + bR n)) + 1) (540 + (6 * bE n + bR n)) = 0
        rw [up_n (by omega)]
        exact q.2
    refine k2_failGo_43 g1 (u1.D s36 (hJ.D h6)) o1 (fun M' hf hm => ?_)
    rw [e2.1, e2.2] at hm
    have e3 : M'.1 45 (16 * (6 * bE n + bR n) + 3) = Int32.ofInt (n (468 + (6 * bE n + bR n)) + 1) := by
      rw [hm _, if_neg (by omega), if_neg (by omega), q_si_s]
    refine ⟨16 * (6 * bE n + bR n) + 3, _, by (first | assumption | (simp only [z_nat, z_lit, ← Int32.ofInt_add, ← Int32.ofInt_sub, ← Int32.ofInt_mul]; exact congrArg Int32.ofInt (by omega)) | (simp only [z_nat, z_lit, ← Int32.ofInt_add, ← Int32.ofInt_sub, ← Int32.ofInt_mul]; done) | exact congrArg Int32.ofInt (by omega) | rfl), by (dsimp only; omega), e3, ?_⟩
    have hf2 : q_fs [45] [] M M' := (q_fs.rf.s1 (r := 45) (i := 16 * (6 * bE n + bR n) + 3) (x := Int32.ofInt (n (468 + (6 * bE n + bR n)) + 1))).tr hf
    refine ⟨_, rfl, hQ.2 _ _ hy M' hf2 (g.sch_43 hJ hB (u1.tr fl_sch) hJ'.1.1 hf2 (fun i hi => ?_) ⟨?_, ?_, ?_, ?_⟩ (fun j hj => ?_))⟩
    · rw [hm i, if_neg (by omega), if_neg (by omega), q_si_n (by omega)]
    · rw [hm _, if_neg (by omega), if_pos rfl, nFl_f]
    · rw [hm _, if_neg (by omega), if_neg (by omega), q_si_n (by omega), nFl_o (by omega) s36 (by omega)]
      unfold nBk
      rw [up_n (by omega)]
      exact hsl.2.1
    · rw [e3, nFl_o (by omega) s36 (by omega)]
      unfold nBk
      rw [up_s]
    · rw [hm _, if_neg (by omega), if_neg (by omega), q_si_n (by omega), nFl_o (by omega) s36 (by omega)]
      unfold nBk
      rw [up_n (by omega)]
      exact hsl.2.2.2
    · rw [hm _, if_pos (by omega), nFl_m s36 hj]
theorem g_Z.sch_257 {n' : sN} {M' : q_M} (g : g_Z 257 M t n) (hJ : b_J t n) {e r : Nat} (hB : b_B t n e r) (hc : sch (6 * e + r) n n') (hN : b_N t n') (hf : q_fs [259] [] M M') (ho : ∀ i, ¬ (16 * (6 * e + r) < i ∧ i < 16 * (6 * e + r) + 16) → M'.1 259 i = M.1 259 i) (hn : M'.1 259 (16 * (6 * e + r) + 1) = Int32.ofInt (n' (540 + (6 * e + r))) ∧ M'.1 259 (16 * (6 * e + r) + 2) = Int32.ofInt (n' (432 + (6 * e + r))) ∧ M'.1 259 (16 * (6 * e + r) + 3) = Int32.ofInt (n' (468 + (6 * e + r))) ∧ M'.1 259 (16 * (6 * e + r) + 4) = Int32.ofInt (n' (504 + (6 * e + r)))) (hm : ∀ j, j < 11 → M'.1 259 (16 * (6 * e + r) + 5 + j) = Int32.ofInt (n' (36 + 11 * (6 * e + r) + j))) : g_Z 257 M' t n' :=
  ⟨⟨g.R.1, hN⟩, g.C.fs hf, g.S.sch hJ g.R.e6 g.R.r6 g.R.j11 hB hc (hf.c1 257) (hf.c1 (257 + 1)) (hf.c1 (257 + 3)) (hf.c1 (257 + 4)) (hf.c1 (257 + 5)) (hf.c1 (257 + 6)) (hf.c1 (257 + 7)) ho hn hm⟩
/-- one number of the board's slot: b of the class's, k of the row -/
theorem g_Z.one_257 {b k : Nat} {v : Int} (g : g_Z 257 M t n) (hJ : b_J t n) {e r : Nat} (hB : b_B t n e r) (he : e < 6) (hr : r < 6) (hN : b_N t (up n k v)) (hb : (b = 1 ∧ k = 540 + (6 * e + r)) ∨ (b = 2 ∧ k = 432 + (6 * e + r)) ∨ (b = 3 ∧ k = 468 + (6 * e + r)) ∨ (b = 4 ∧ k = 504 + (6 * e + r)) ∨ ∃ j, j < 11 ∧ b = 5 + j ∧ k = 36 + 11 * (6 * e + r) + j) : g_Z 257 (q_si M 259 (16 * (6 * e + r) + b) (Int32.ofInt v)) t (up n k v) := by
  have hs : 6 * e + r < 36 := by omega
  have hsl := g.sl hs
  have hbb : 1 ≤ b ∧ b < 16 := by
    rcases hb with h | h | h | h | ⟨j, h1, h2, h3⟩ <;> omega
  have key : ∀ b' k', b' < 16 → (b' = b ↔ k' = k) → M.1 259 (16 * (6 * e + r) + b') = Int32.ofInt (n k') → (q_si M 259 (16 * (6 * e + r) + b) (Int32.ofInt v)).1 259 (16 * (6 * e + r) + b') = Int32.ofInt (up n k v k') := fun b' k' h1 h2 h3 => by
    by_cases q : b' = b
    · rw [q, q_si_s, h2.mp q, up_s]
    · rw [q_si_n (by omega), up_n (fun z => q (h2.mpr z))]
      exact h3
  refine g.sch_257 hJ hB (fun i h1 h2 h3 h4 h5 => up_n ?_) hN q_fs.rf.s1 (fun i hi => q_si_n ?_) ⟨key 1 _ (by omega) ?_ hsl.1, key 2 _ (by omega) ?_ hsl.2.1, key 3 _ (by omega) ?_ hsl.2.2.1, key 4 _ (by omega) ?_ hsl.2.2.2⟩ (fun j hj => ?_)
  · rcases hb with h | h | h | h | ⟨j, y1, y2, y3⟩ <;> omega
  · omega
  · rcases hb with h | h | h | h | ⟨j, y1, y2, y3⟩ <;> omega
  · rcases hb with h | h | h | h | ⟨j, y1, y2, y3⟩ <;> omega
  · rcases hb with h | h | h | h | ⟨j, y1, y2, y3⟩ <;> omega
  · rcases hb with h | h | h | h | ⟨j, y1, y2, y3⟩ <;> omega
  · have := key (5 + j) (36 + 11 * (6 * e + r) + j) (by omega) (by rcases hb with h | h | h | h | ⟨i, y1, y2, y3⟩ <;> omega) (by
      have := g.mk hs hj
      rw [show 16 * (6 * e + r) + (5 + j) = 16 * (6 * e + r) + 5 + j by omega]
      exact this)
    rw [show 16 * (6 * e + r) + (5 + j) = 16 * (6 * e + r) + 5 + j by omega] at this
    exact this
set_option maxRecDepth 100000 in
set_option maxHeartbeats 4000000 in
theorem k2_isReady_257 (g : g_Z 257 M t n) (hD : b_D t n) (h1 : isO t n → Q (some (.int 1)) M) (h0 : ¬ isO t n → Q (some (.int 0)) M) : q_C q_mt (L, xs, q_shp) E nX6_isReady (d + 1) 0 0 [.ref 265] M Q := by
  have e1 := g.dv
  have h6 := g.R.e6
  have h7 := g.R.r6
  by_cases q : isB t n
  · have hb := hD.B q
    have he := hb.2.1
    have hr := hb.2.2.1
    have hs := (g.R.bs he hr).2.2.2.2.2.1
    rw [brd_at hb] at e1
    refine w_in 90 [] ?_
    refine ⟨_, e1, ?_⟩
    refine z_eq (bE n : Int) (-1) (fun z => by omega) (fun _ => ?_)
    refine k2_boardSlot_257 g hb ?_
    refine ⟨16 * (6 * bE n + bR n) + 1, _, by (first | assumption | (simp only [z_nat, z_lit, ← Int32.ofInt_add, ← Int32.ofInt_sub, ← Int32.ofInt_mul]; exact congrArg Int32.ofInt (by omega)) | (simp only [z_nat, z_lit, ← Int32.ofInt_add, ← Int32.ofInt_sub, ← Int32.ofInt_mul]; done) | exact congrArg Int32.ofInt (by omega) | rfl), by (dsimp only; omega), (g.sl (show (6 * bE n + bR n) < 36 by omega)).1, ?_⟩
    exact z_ne (n (540 + (6 * bE n + bR n))) 0 (fun h => ⟨z_0, h0 (fun z => h z.2)⟩) (fun h => ⟨z_1, h1 ⟨q, h⟩⟩)
  · rw [brd_no q] at e1
    refine w_in 90 [] ?_
    refine ⟨_, e1, ?_⟩
    exact z_eq (-1) (-1) (fun _ => ⟨z_0, h0 (fun z => q z.1)⟩) (fun z => absurd rfl z)
set_option maxRecDepth 100000 in
set_option maxHeartbeats 4000000 in
theorem k2_doMark_257 (g : g_Z 257 M t n) (hJ : b_J t n) {a b : Int32} (j : Nat) (w : Int) (hj : j < t 2 0) (hw : 0 ≤ w ∧ w ≤ 20) (hQ : cQ 257 [259] [] M t (aMark t n j w) Q) (ha : a = nI j := by (first | assumption | (simp only [z_nat, z_lit, ← Int32.ofInt_add, ← Int32.ofInt_sub, ← Int32.ofInt_mul]; exact congrArg Int32.ofInt (by omega)) | (simp only [z_nat, z_lit, ← Int32.ofInt_add, ← Int32.ofInt_sub, ← Int32.ofInt_mul]; done) | exact congrArg Int32.ofInt (by omega) | rfl)) (hb : b = Int32.ofInt w := by (first | assumption | (simp only [z_nat, z_lit, ← Int32.ofInt_add, ← Int32.ofInt_sub, ← Int32.ofInt_mul]; exact congrArg Int32.ofInt (by omega)) | (simp only [z_nat, z_lit, ← Int32.ofInt_add, ← Int32.ofInt_sub, ← Int32.ofInt_mul]; done) | exact congrArg Int32.ofInt (by omega) | rfl)) : q_C q_mt (L, xs, q_shp) E nX6_doMark (d + 2) 0 0 [.ref 265, .int (a), .int (b)] M Q := by
  subst ha hb
  have h6 := g.R.e6
  have h7 := g.R.r6
  have h11 := g.R.j11
  have fin : (¬ (isO t n ∧ onP t j (bE n) = true)) → Q (some (.int (Int32.ofInt (-3)))) M := fun z => hQ.1 (if_neg (fun y => z (by rw [Bool.and_eq_true, isOb_t] at y; exact y)))
  refine w_in 90 [] ?_
  refine k2_isReady_257 g (hJ.D h6) (fun q => br_f (by decide) ?_) (fun q => br_t (by decide) ⟨_, rfl, fin (fun z => q z.1)⟩)
  obtain ⟨hB, he, hr, hs, hg, hk⟩ := hJ.O g.R q
  have e1 := g.dv
  rw [brd_at hB] at e1
  refine ⟨_, e1, ?_⟩
  refine k2_isOnPanel g j (bE n) hj he.1 (fun ho => bn_t (by decide) ?_) (fun ho => bn_f (by decide) ⟨_, rfl, fin (fun z => by rw [ho] at z; exact absurd z.2 (by decide))⟩)
  have hy : aMark t n j w = some (((mkN t (nMk n j w) (bE n) (bR n) : Nat) : Int), nMk n j w) := if_pos (by rw [Bool.and_eq_true, isOb_t]; exact ⟨q, ho⟩)
  have hJ' := (aMark_ok hJ g.R hj hw _ _ hy).1
  refine k2_boardSlot_257 g hB ?_
  refine ⟨16 * (6 * bE n + bR n) + (5 + j), _, by (first | assumption | (simp only [z_nat, z_lit, ← Int32.ofInt_add, ← Int32.ofInt_sub, ← Int32.ofInt_mul]; exact congrArg Int32.ofInt (by omega)) | (simp only [z_nat, z_lit, ← Int32.ofInt_add, ← Int32.ofInt_sub, ← Int32.ofInt_mul]; done) | exact congrArg Int32.ofInt (by omega) | rfl), by (dsimp only; omega), rfl, ?_⟩
  have g' := g.one_257 hJ hB he.2 hr.2 hJ'.1.1 (b := 5 + j) (Or.inr (Or.inr (Or.inr (Or.inr ⟨j, by omega, rfl, rfl⟩))))
  refine k2_countMarks_257 g' (bE n) (bR n) he.1 hr.1 ⟨_, rfl, ?_⟩
  exact hQ.2 _ _ hy _ q_fs.rf.s1 g'
set_option maxRecDepth 100000 in
set_option maxHeartbeats 4000000 in
theorem k2_doCap_257 (g : g_Z 257 M t n) (hJ : b_J t n) {a : Int32} (w : Int) (hw : 0 ≤ w ∧ w ≤ 20) (hQ : cQ 257 [259] [] M t (aCap t n w) Q) (ha : a = Int32.ofInt w := by (first | assumption | (simp only [z_nat, z_lit, ← Int32.ofInt_add, ← Int32.ofInt_sub, ← Int32.ofInt_mul]; exact congrArg Int32.ofInt (by omega)) | (simp only [z_nat, z_lit, ← Int32.ofInt_add, ← Int32.ofInt_sub, ← Int32.ofInt_mul]; done) | exact congrArg Int32.ofInt (by omega) | rfl)) : q_C q_mt (L, xs, q_shp) E nX6_doCap (d + 2) 0 0 [.ref 265, .int (a)] M Q := by
  subst ha
  have h6 := g.R.e6
  have h7 := g.R.r6
  refine w_in 90 [] ?_
  refine k2_isReady_257 g (hJ.D h6) (fun q => bn_t (by decide) ?_) (fun q => bn_f (by decide) ⟨_, rfl, hQ.1 (if_neg (by rw [isOb_t]; exact q))⟩)
  obtain ⟨hB, he, hr, hs, hg, hk⟩ := hJ.O g.R q
  have hy : aCap t n w = some (n (432 + (6 * bE n + bR n)), nCp n w) := if_pos (isOb_t.mpr q)
  have hJ' := (aCap_ok hJ g.R hw _ _ hy).1
  refine k2_boardSlot_257 g hB ?_
  refine ⟨16 * (6 * bE n + bR n) + 2, _, by (first | assumption | (simp only [z_nat, z_lit, ← Int32.ofInt_add, ← Int32.ofInt_sub, ← Int32.ofInt_mul]; exact congrArg Int32.ofInt (by omega)) | (simp only [z_nat, z_lit, ← Int32.ofInt_add, ← Int32.ofInt_sub, ← Int32.ofInt_mul]; done) | exact congrArg Int32.ofInt (by omega) | rfl), by (dsimp only; omega), (g.sl (show (6 * bE n + bR n) < 36 by omega)).2.1, ?_⟩
  refine ⟨16 * (6 * bE n + bR n) + 2, _, by (first | assumption | (simp only [z_nat, z_lit, ← Int32.ofInt_add, ← Int32.ofInt_sub, ← Int32.ofInt_mul]; exact congrArg Int32.ofInt (by omega)) | (simp only [z_nat, z_lit, ← Int32.ofInt_add, ← Int32.ofInt_sub, ← Int32.ofInt_mul]; done) | exact congrArg Int32.ofInt (by omega) | rfl), by (dsimp only; omega), rfl, ?_⟩
  exact ⟨_, rfl, hQ.2 _ _ hy _ q_fs.rf.s1 (g.one_257 hJ hB he.2 hr.2 hJ'.1.1 (Or.inr (Or.inl ⟨rfl, rfl⟩)))⟩
set_option maxRecDepth 100000 in
set_option maxHeartbeats 4000000 in
theorem k2_doHalf_257 (g : g_Z 257 M t n) (hJ : b_J t n) {a : Int32} (k : Nat) (hk2 : k < 2) (hQ : cQ 257 [259] [] M t (aHalf t n k) Q) (ha : a = nI k := by (first | assumption | (simp only [z_nat, z_lit, ← Int32.ofInt_add, ← Int32.ofInt_sub, ← Int32.ofInt_mul]; exact congrArg Int32.ofInt (by omega)) | (simp only [z_nat, z_lit, ← Int32.ofInt_add, ← Int32.ofInt_sub, ← Int32.ofInt_mul]; done) | exact congrArg Int32.ofInt (by omega) | rfl)) : q_C q_mt (L, xs, q_shp) E nX6_doHalf (d + 2) 0 0 [.ref 265, .int (a)] M Q := by
  subst ha
  have h6 := g.R.e6
  have h7 := g.R.r6
  have fin : (¬ (isO t n ∧ t 9 (bE n) = 1 ∧ hvH (n (504 + (6 * bE n + bR n))) k = false)) → Q (some (.int (Int32.ofInt (-3)))) M := fun z => hQ.1 (if_neg (fun y => z (by rw [Bool.and_eq_true, isOb_t, Bool.and_eq_true, decide_eq_true_eq, Bool.not_eq_true'] at y; exact y)))
  refine w_in 90 [] ?_
  refine k2_isReady_257 g (hJ.D h6) (fun q => br_f (by decide) ?_) (fun q => br_t (by decide) ⟨_, rfl, fin (fun z => q z.1)⟩)
  obtain ⟨hB, he, hr, hs, hg, hk⟩ := hJ.O g.R q
  have e1 := g.dv
  rw [brd_at hB] at e1
  have h9 := (g.R.be he.1).1
  have hb := hs.2.2.2.2.1
  obtain ⟨v, hv⟩ : ∃ v : Nat, n (504 + (6 * bE n + bR n)) = v := ⟨(n (504 + (6 * bE n + bR n))).toNat, by omega⟩
  have ha := hv_at v (by omega) k hk2
  have e0 : M.1 259 (16 * (6 * bE n + bR n) + 4) = Int32.ofInt v := by
    have := (g.sl (show (6 * bE n + bR n) < 36 by omega)).2.2.2
    rw [hv] at this
    exact this
  refine ⟨_, e1, ?_⟩
  refine ⟨bE n, _, by (first | assumption | (simp only [z_nat, z_lit, ← Int32.ofInt_add, ← Int32.ofInt_sub, ← Int32.ofInt_mul]; exact congrArg Int32.ofInt (by omega)) | (simp only [z_nat, z_lit, ← Int32.ofInt_add, ← Int32.ofInt_sub, ← Int32.ofInt_mul]; done) | exact congrArg Int32.ofInt (by omega) | rfl), by (dsimp only; omega), (g.en he.1).1, ?_⟩
  refine z_ne (t 9 (bE n)) 0 (fun hp => ?_) (fun hp => ⟨_, rfl, fin (fun z => by have := z.2.1; omega)⟩)
  refine k2_boardSlot_257 g hB ?_
  refine ⟨16 * (6 * bE n + bR n) + 4, _, by (first | assumption | (simp only [z_nat, z_lit, ← Int32.ofInt_add, ← Int32.ofInt_sub, ← Int32.ofInt_mul]; exact congrArg Int32.ofInt (by omega)) | (simp only [z_nat, z_lit, ← Int32.ofInt_add, ← Int32.ofInt_sub, ← Int32.ofInt_mul]; done) | exact congrArg Int32.ofInt (by omega) | rfl), by (dsimp only; omega), e0, ?_⟩
  have eb := b_at (x := Int32.ofInt v) (j := k) (by omega)
  rw [ha.1] at eb
  by_cases hh : hvH v k = true
  · rw [if_pos hh] at eb
    refine z_ne 1 1 (fun z => absurd rfl z) (fun _ => ⟨_, rfl, fin (fun z => ?_)⟩) (hx := eb)
    rw [hv, hh] at z
    exact absurd z.2.2 (by decide)
  · have hh : hvH v k = false := by simpa using hh
    rw [if_neg (by rw [hh]; decide)] at eb
    refine z_ne 0 1 (fun _ => ?_) (fun z => by omega) (hx := eb)
    have hy : aHalf t n k = some (hvN (n (504 + (6 * bE n + bR n))) k, nHf n (hvN (n (504 + (6 * bE n + bR n))) k)) := if_pos (by rw [Bool.and_eq_true, isOb_t, Bool.and_eq_true, decide_eq_true_eq, Bool.not_eq_true', hv]; exact ⟨q, by omega, hh⟩)
    have hJ' := (aHalf_ok hJ g.R hk2 _ _ hy).1
    have e3 := ha.2 hh
    refine ⟨16 * (6 * bE n + bR n) + 4, _, by (first | assumption | (simp only [z_nat, z_lit, ← Int32.ofInt_add, ← Int32.ofInt_sub, ← Int32.ofInt_mul]; exact congrArg Int32.ofInt (by omega)) | (simp only [z_nat, z_lit, ← Int32.ofInt_add, ← Int32.ofInt_sub, ← Int32.ofInt_mul]; done) | exact congrArg Int32.ofInt (by omega) | rfl), by (dsimp only; omega), e0, ?_⟩
    refine ⟨16 * (6 * bE n + bR n) + 4, Int32.ofInt (hvN v k), by (first | assumption | (simp only [z_nat, z_lit, ← Int32.ofInt_add, ← Int32.ofInt_sub, ← Int32.ofInt_mul]; exact congrArg Int32.ofInt (by omega)) | (simp only [z_nat, z_lit, ← Int32.ofInt_add, ← Int32.ofInt_sub, ← Int32.ofInt_mul]; done) | exact congrArg Int32.ofInt (by omega) | rfl), by (dsimp only; omega), by (first | assumption | (simp only [z_nat, z_lit, ← Int32.ofInt_add, ← Int32.ofInt_sub, ← Int32.ofInt_mul]; exact congrArg Int32.ofInt (by omega)) | (simp only [z_nat, z_lit, ← Int32.ofInt_add, ← Int32.ofInt_sub, ← Int32.ofInt_mul]; done) | exact congrArg Int32.ofInt (by omega) | rfl), ?_⟩
    refine ⟨16 * (6 * bE n + bR n) + 4, _, by (first | assumption | (simp only [z_nat, z_lit, ← Int32.ofInt_add, ← Int32.ofInt_sub, ← Int32.ofInt_mul]; exact congrArg Int32.ofInt (by omega)) | (simp only [z_nat, z_lit, ← Int32.ofInt_add, ← Int32.ofInt_sub, ← Int32.ofInt_mul]; done) | exact congrArg Int32.ofInt (by omega) | rfl), by (dsimp only; omega), q_si_s, ?_⟩
    refine ⟨_, rfl, ?_⟩
    have g' := g.one_257 hJ hB he.2 hr.2 hJ'.1.1 (b := 4) (Or.inr (Or.inr (Or.inr (Or.inl ⟨rfl, rfl⟩))))
    have := hQ.2 _ _ hy _ (q_fs.rf.s1) g'
    rw [hv] at this
    exact this
set_option maxRecDepth 100000 in
set_option maxHeartbeats 4000000 in
theorem k2_clearMarks_257 {a : Int32} (s : Nat) (hs : s < 36) (hQ : ∀ M', q_fs [259] [] M M' → (∀ i, M'.1 259 i = if 16 * s + 5 ≤ i ∧ i < 16 * s + 16 then Int32.ofInt (-1) else M.1 259 i) → Q none M') (ha : a = nI (16 * s) := by (first | assumption | (simp only [z_nat, z_lit, ← Int32.ofInt_add, ← Int32.ofInt_sub, ← Int32.ofInt_mul]; exact congrArg Int32.ofInt (by omega)) | (simp only [z_nat, z_lit, ← Int32.ofInt_add, ← Int32.ofInt_sub, ← Int32.ofInt_mul]; done) | exact congrArg Int32.ofInt (by omega) | rfl)) : q_C q_mt (L, xs, q_shp) E nX8_clearMarks (d) 0 0 [.ref 257, .int (a)] M Q := by
  subst ha
  have W := lp_m (W := fun i M' => ∀ v, v = nI i → q_G q_mt (L, xs, q_shp) E nX8_clearMarks (d) 0 0 (q_Q (L, xs, q_shp) E Q) 2 [some (.ref 257), some (.int (nI (16 * s))), some (.int (v))] [] M') (J := fun i M' => q_fs [259] [] M M' ∧ ∀ k, M'.1 259 k = if 16 * s + 5 ≤ k ∧ k < 16 * s + 5 + i then Int32.ofInt (-1) else M.1 259 k) 11 ?_ ?_ 0 M (Nat.zero_le _) ⟨q_fs.rf, fun k => by rw [if_neg (by omega)]⟩
  · refine w_in 90 [2] ?_
    exact W _ rfl
  · rintro M' ⟨hf, hm⟩ v rfl
    refine w_at 90 [2] ?_
    exact z_le 11 (11 : Nat) (fun _ => hQ M' hf hm) (fun h => by omega)
  · rintro i M' hi ⟨hf, hm⟩ ih v rfl
    refine w_at 90 [2] ?_
    refine z_le 11 (i : Int) (fun h => by omega) (fun _ => ?_)
    refine ⟨16 * s + 5 + i, _, by (first | assumption | (simp only [z_nat, z_lit, ← Int32.ofInt_add, ← Int32.ofInt_sub, ← Int32.ofInt_mul]; exact congrArg Int32.ofInt (by omega)) | (simp only [z_nat, z_lit, ← Int32.ofInt_add, ← Int32.ofInt_sub, ← Int32.ofInt_mul]; done) | exact congrArg Int32.ofInt (by omega) | rfl), by (dsimp only; omega), rfl, ?_⟩
    refine ih _ ⟨hf.s1, fun k => ?_⟩ _ (by (first | assumption | (simp only [z_nat, z_lit, ← Int32.ofInt_add, ← Int32.ofInt_sub, ← Int32.ofInt_mul]; exact congrArg Int32.ofInt (by omega)) | (simp only [z_nat, z_lit, ← Int32.ofInt_add, ← Int32.ofInt_sub, ← Int32.ofInt_mul]; done) | exact congrArg Int32.ofInt (by omega) | rfl))
    by_cases q : k = 16 * s + 5 + i
    · rw [q, q_si_s, if_pos (by omega)]
    · rw [q_si_n q, hm k]
      by_cases q2 : 16 * s + 5 ≤ k ∧ k < 16 * s + 5 + i
      · rw [if_pos q2, if_pos (by omega)]
      · rw [if_neg q2, if_neg (by omega)]
set_option maxRecDepth 100000 in
set_option maxHeartbeats 4000000 in
theorem k2_failGo_257 (g : g_Z 257 M t n) (hD : b_D t n) (q : isO t n) (hQ : ∀ M', q_fs [259] [] M M' → (∀ i, M'.1 259 i = if 16 * (6 * bE n + bR n) + 5 ≤ i ∧ i < 16 * (6 * bE n + bR n) + 16 then Int32.ofInt (-1) else if i = 16 * (6 * bE n + bR n) + 1 then Int32.ofInt 1 else M.1 259 i) → Q (some (.int (Int32.ofInt 0))) M') : q_C q_mt (L, xs, q_shp) E nX6_doFail (d + 2) 0 0 [.ref 265] M Q := by
  have h6 := g.R.e6
  have h7 := g.R.r6
  have hB := hD.B q.1
  have he := hB.2.1
  have hr := hB.2.2.1
  refine w_in 90 [] ?_
  refine k2_isReady_257 g hD (fun _ => bn_t (by decide) ?_) (fun z => absurd q z)
  refine k2_boardSlot_257 g hB ?_
  refine ⟨16 * (6 * bE n + bR n) + 1, _, by (first | assumption | (simp only [z_nat, z_lit, ← Int32.ofInt_add, ← Int32.ofInt_sub, ← Int32.ofInt_mul]; exact congrArg Int32.ofInt (by omega)) | (simp only [z_nat, z_lit, ← Int32.ofInt_add, ← Int32.ofInt_sub, ← Int32.ofInt_mul]; done) | exact congrArg Int32.ofInt (by omega) | rfl), by (dsimp only; omega), rfl, ?_⟩
  refine k2_clearMarks_257 ((6 * bE n + bR n)) (by omega) (fun M' hf hm => ⟨_, rfl, hQ M' ((q_fs.rf.s1 (r := 259) (i := 16 * (6 * bE n + bR n) + 1) (x := Int32.ofInt 1)).tr hf) (fun i => ?_)⟩)
  rw [hm i]
  by_cases q2 : i = 16 * (6 * bE n + bR n) + 1
  · rw [q2, q_si_s, if_pos rfl]
  · rw [q_si_n q2, if_neg q2]
set_option maxRecDepth 100000 in
set_option maxHeartbeats 4000000 in
theorem k2_doFail_257 (g : g_Z 257 M t n) (hJ : b_J t n) (hQ : cQ 257 [259] [] M t (aFail t n) Q) : q_C q_mt (L, xs, q_shp) E nX6_doFail (d + 2) 0 0 [.ref 265] M Q := by
  have h6 := g.R.e6
  have h7 := g.R.r6
  by_cases q : isO t n
  · obtain ⟨hB, he, hr, hs, hg, hk⟩ := hJ.O g.R q
    have hy : aFail t n = some (0, nFl n ((6 * bE n + bR n))) := if_pos (isOb_t.mpr q)
    have hJ' := (aFail_ok hJ g.R _ _ hy).1
    have s36 : (6 * bE n + bR n) < 36 := by omega
    have hsl := g.sl s36
    refine k2_failGo_257 g (hJ.D h6) q (fun M' hf hm => hQ.2 _ _ hy M' hf (g.sch_257 hJ hB fl_sch hJ'.1.1 hf (fun i hi => ?_) ⟨?_, ?_, ?_, ?_⟩ (fun j hj => ?_)))
    · rw [hm i, if_neg (by omega), if_neg (by omega)]
    · rw [hm _, if_neg (by omega), if_pos rfl, nFl_f]
    · rw [hm _, if_neg (by omega), if_neg (by omega), nFl_o (by omega) s36 (by omega)]
      exact hsl.2.1
    · rw [hm _, if_neg (by omega), if_neg (by omega), nFl_o (by omega) s36 (by omega)]
      exact hsl.2.2.1
    · rw [hm _, if_neg (by omega), if_neg (by omega), nFl_o (by omega) s36 (by omega)]
      exact hsl.2.2.2
    · rw [hm _, if_pos (by omega), nFl_m s36 hj]
  · refine w_in 90 [] ?_
    exact k2_isReady_257 g (hJ.D h6) (fun z => absurd z q) (fun q => bn_f (by decide) ⟨_, rfl, hQ.1 (if_neg (by rw [isOb_t]; exact q))⟩)
set_option maxRecDepth 100000 in
set_option maxHeartbeats 4000000 in
theorem k2_doBalk_257 (g : g_Z 257 M t n) (hJ : b_J t n) (hQ : cQ 257 [259] [] M t (aBalk t n) Q) : q_C q_mt (L, xs, q_shp) E nX6_doBalk (d + 3) 0 0 [.ref 265] M Q := by
  have h6 := g.R.e6
  have h7 := g.R.r6
  refine w_in 90 [] ?_
  refine k2_isReady_257 g (hJ.D h6) (fun q => bn_t (by decide) ?_) (fun q => bn_f (by decide) ⟨_, rfl, hQ.1 (if_neg (by rw [isOb_t]; exact q))⟩)
  obtain ⟨hB, he, hr, hs, hg, hk⟩ := hJ.O g.R q
  have b0 := hs.2.2.2.1
  have hy : aBalk t n = some (n (468 + (6 * bE n + bR n)) + 1, if n (468 + (6 * bE n + bR n)) + 1 = 2 then nFl (nBk n) ((6 * bE n + bR n)) else nBk n) := if_pos (isOb_t.mpr q)
  have hJ' := (aBalk_ok hJ g.R _ _ hy).1
  have s36 : (6 * bE n + bR n) < 36 := by omega
  have hsl := g.sl s36
  obtain ⟨u1, u2⟩ := bk_b hJ g.R q
  have hN1 : b_N t (nBk n) := g.R.bn.sch h6 h7 g.R.j11 he.1 hr.1 u1 u2
  have g1 : g_Z 257 (q_si M 259 (16 * (6 * bE n + bR n) + 3) (Int32.ofInt (n (468 + (6 * bE n + bR n)) + 1))) t (nBk n) := g.one_257 hJ hB he.2 hr.2 hN1 (b := 3) (Or.inr (Or.inr (Or.inl ⟨rfl, rfl⟩)))
  refine k2_boardSlot_257 g hB ?_
  refine ⟨16 * (6 * bE n + bR n) + 3, _, by (first | assumption | (simp only [z_nat, z_lit, ← Int32.ofInt_add, ← Int32.ofInt_sub, ← Int32.ofInt_mul]; exact congrArg Int32.ofInt (by omega)) | (simp only [z_nat, z_lit, ← Int32.ofInt_add, ← Int32.ofInt_sub, ← Int32.ofInt_mul]; done) | exact congrArg Int32.ofInt (by omega) | rfl), by (dsimp only; omega), hsl.2.2.1, ?_⟩
  refine ⟨16 * (6 * bE n + bR n) + 3, Int32.ofInt (n (468 + (6 * bE n + bR n)) + 1), by (first | assumption | (simp only [z_nat, z_lit, ← Int32.ofInt_add, ← Int32.ofInt_sub, ← Int32.ofInt_mul]; exact congrArg Int32.ofInt (by omega)) | (simp only [z_nat, z_lit, ← Int32.ofInt_add, ← Int32.ofInt_sub, ← Int32.ofInt_mul]; done) | exact congrArg Int32.ofInt (by omega) | rfl), by (dsimp only; omega), by (first | assumption | (simp only [z_nat, z_lit, ← Int32.ofInt_add, ← Int32.ofInt_sub, ← Int32.ofInt_mul]; exact congrArg Int32.ofInt (by omega)) | (simp only [z_nat, z_lit, ← Int32.ofInt_add, ← Int32.ofInt_sub, ← Int32.ofInt_mul]; done) | exact congrArg Int32.ofInt (by omega) | rfl), ?_⟩
  refine ⟨16 * (6 * bE n + bR n) + 3, _, by (first | assumption | (simp only [z_nat, z_lit, ← Int32.ofInt_add, ← Int32.ofInt_sub, ← Int32.ofInt_mul]; exact congrArg Int32.ofInt (by omega)) | (simp only [z_nat, z_lit, ← Int32.ofInt_add, ← Int32.ofInt_sub, ← Int32.ofInt_mul]; done) | exact congrArg Int32.ofInt (by omega) | rfl), by (dsimp only; omega), q_si_s, ?_⟩
  refine z_le (n (468 + (6 * bE n + bR n)) + 1) 1 (fun q2 => ?_) (fun q2 => ?_)
  · rw [if_neg (by omega)] at hy
    refine ⟨16 * (6 * bE n + bR n) + 3, _, by (first | assumption | (simp only [z_nat, z_lit, ← Int32.ofInt_add, ← Int32.ofInt_sub, ← Int32.ofInt_mul]; exact congrArg Int32.ofInt (by omega)) | (simp only [z_nat, z_lit, ← Int32.ofInt_add, ← Int32.ofInt_sub, ← Int32.ofInt_mul]; done) | exact congrArg Int32.ofInt (by omega) | rfl), by (dsimp only; omega), q_si_s, ?_⟩
    exact ⟨_, rfl, hQ.2 _ _ hy _ q_fs.rf.s1 g1⟩
  · rw [if_pos (by omega)] at hy hJ'
    have e2 := u1.b s36
    have o1 : isO t (nBk n) := by
      refine ⟨?_, ?_⟩
      · show ¬ t 0 0 = 0 ∧ ¬ up n (468 + (6 * bE n + bR n)) (n (468 + (6 * bE n + bR n)) + 1) 633 = 1
        rw [up_n (by omega)]
        exact q.1
      · rw [e2.1, e2.2]
        show up n (468 + (6 * bE n + bR n)) (n (468 + (6 * bE n + bR n)) + 1) (540 + (6 * bE n + bR n)) = 0
        rw [up_n (by omega)]
        exact q.2
    refine k2_failGo_257 g1 (u1.D s36 (hJ.D h6)) o1 (fun M' hf hm => ?_)
    rw [e2.1, e2.2] at hm
    have e3 : M'.1 259 (16 * (6 * bE n + bR n) + 3) = Int32.ofInt (n (468 + (6 * bE n + bR n)) + 1) := by
      rw [hm _, if_neg (by omega), if_neg (by omega), q_si_s]
    refine ⟨16 * (6 * bE n + bR n) + 3, _, by (first | assumption | (simp only [z_nat, z_lit, ← Int32.ofInt_add, ← Int32.ofInt_sub, ← Int32.ofInt_mul]; exact congrArg Int32.ofInt (by omega)) | (simp only [z_nat, z_lit, ← Int32.ofInt_add, ← Int32.ofInt_sub, ← Int32.ofInt_mul]; done) | exact congrArg Int32.ofInt (by omega) | rfl), by (dsimp only; omega), e3, ?_⟩
    have hf2 : q_fs [259] [] M M' := (q_fs.rf.s1 (r := 259) (i := 16 * (6 * bE n + bR n) + 3) (x := Int32.ofInt (n (468 + (6 * bE n + bR n)) + 1))).tr hf
    refine ⟨_, rfl, hQ.2 _ _ hy M' hf2 (g.sch_257 hJ hB (u1.tr fl_sch) hJ'.1.1 hf2 (fun i hi => ?_) ⟨?_, ?_, ?_, ?_⟩ (fun j hj => ?_))⟩
    · rw [hm i, if_neg (by omega), if_neg (by omega), q_si_n (by omega)]
    · rw [hm _, if_neg (by omega), if_pos rfl, nFl_f]
    · rw [hm _, if_neg (by omega), if_neg (by omega), q_si_n (by omega), nFl_o (by omega) s36 (by omega)]
      unfold nBk
      rw [up_n (by omega)]
      exact hsl.2.1
    · rw [e3, nFl_o (by omega) s36 (by omega)]
      unfold nBk
      rw [up_s]
    · rw [hm _, if_neg (by omega), if_neg (by omega), q_si_n (by omega), nFl_o (by omega) s36 (by omega)]
      unfold nBk
      rw [up_n (by omega)]
      exact hsl.2.2.2
    · rw [hm _, if_pos (by omega), nFl_m s36 hj]
end S3
